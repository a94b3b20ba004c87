def w_X11_four_3 (SL : Nat) (xs : Nat → Int32) (d : Nat) (p s q : Nat) (Q : Option Value → mm_H → Prop) (v1 : Int32) (v2 : Int32) (I : Nat → Nat → Int32) (J : Nat → Nat → Int64) : Prop := mm_w SL xs (mm_s SL xs (d + 0)) mm_am kX11_four 0 0 none Q 3 [some (.ref 65), some (.int v1), some (.int v2)] [] (hp p s q I J) 0 0
theorem sg_X11_four {SL : Nat} {xs : Nat → Int32} {d : Nat} {p s q : Nat} {Q : Option Value → mm_H → Prop} {a0 : Int32} {I : Nat → Nat → Int32} {J : Nat → Nat → Int64}  (k : w_X11_four_3 SL xs d p s q Q a0 (Int32.ofInt 24) I J) : mm_s SL xs (d + 1) 166 [.ref 65, .int a0] (hp p s q I J) Q := by
  refine e_X11_four rfl ?_
  refine sp_bipush 2 rfl rfl ?_
  refine sp_I (y := Int32.ofInt 24) rfl ?_
  refine sp_istore_n 3 rfl rfl rfl ?_
  exact k
theorem sg_X11_four_3 {SL : Nat} {xs : Nat → Int32} {d : Nat} {p s q : Nat} {Q : Option Value → mm_H → Prop} {v1 : Int32} {v2 : Int32} {I : Nat → Nat → Int32} {J : Nat → Nat → Int64}  (k : ((v2 < Int32.ofInt 0 → Q none (hp p s q I J)) ∧ (¬ (v2 < Int32.ofInt 0) → (vp_in (I 65 1) 1200 ∧ w_X11_four_3 SL xs d p s q Q v1 (v2 + Int32.ofInt (-8)) (mm_u (mm_u I 66 (((I 65 1)).toNatClampNeg) ((v1 >>> (v2 &&& 31)) &&& (Int32.ofInt 255))) 65 1 ((I 65 1) + (Int32.ofInt 1))) J)))) : w_X11_four_3 SL xs d p s q Q v1 v2 I J := by
  unfold w_X11_four_3
  refine sp_iload_n 4 rfl rfl rfl ?_
  refine sp_if_lt 7 rfl rfl (fun q => ?_) (fun q => ?_)
  · have k := k.1 q
    exact st_vret rfl rfl (Nat.le_refl _) (Nat.le_refl _) k
  · have k := k.2 q
    refine sp_aload_n 8 rfl rfl rfl ?_
    refine hq_getR 11 rfl rfl rfl rfl ?_
    refine sp_aload_n 12 rfl rfl rfl ?_
    refine hq_getI 15 rfl rfl rfl ?_
    refine sp_iload_n 16 rfl rfl rfl ?_
    refine sp_iload_n 17 rfl rfl rfl ?_
    refine sp_ishr 18 rfl rfl ?_
    refine sp_sipush 21 rfl rfl ?_
    refine sp_I (y := Int32.ofInt 255) rfl ?_
    refine sp_iand 22 rfl rfl ?_
    have n1_ := k.1
    have k := k.2
    refine hq_iast 23 rfl rfl n1_ rfl ?_
    refine sp_aload_n 24 rfl rfl rfl ?_
    refine sp_dup 25 rfl rfl rfl ?_
    refine hq_getI 28 rfl rfl rfl ?_
    refine sp_I (y := (I 65 1)) (by simp [mm_u]) ?_
    refine sp_iconst 29 rfl rfl ?_
    refine sp_iadd 30 rfl rfl ?_
    refine hq_putI 33 rfl rfl rfl ?_
    refine sp_iinc 36 rfl rfl rfl rfl ?_
    refine sp_goto rfl ?_
    exact k
theorem sg_X11_end {SL : Nat} {xs : Nat → Int32} {d : Nat} {p s q : Nat} {Q : Option Value → mm_H → Prop} {a0 : Int32} {I : Nat → Nat → Int32} {J : Nat → Nat → Int64}  (k : ((a0 < Int32.ofInt 0 → Q (some (.int (Int32.ofInt (-1)))) (hp p s q I J)) ∧ (¬ (a0 < Int32.ofInt 0) → ((a0 ≤ (I 65 1) → Q (some (.int a0)) (hp p s q (mm_u I 65 1 a0) J)) ∧ (¬ (a0 ≤ (I 65 1)) → Q (some (.int (Int32.ofInt (-1)))) (hp p s q I J)))))) : mm_s SL xs (d + 1) 167 [.ref 65, .int a0] (hp p s q I J) Q := by
  refine e_X11_end rfl ?_
  refine sp_iload_n 1 rfl rfl rfl ?_
  refine sp_if_lt 4 rfl rfl (fun q => ?_) (fun q => ?_)
  · have k := k.1 q
    refine sp_iconst 13 rfl rfl ?_
    exact st_iret rfl rfl (Nat.le_refl _) (Nat.le_refl _) k
  · have k := k.2 q
    refine sp_iload_n 5 rfl rfl rfl ?_
    refine sp_aload_n 6 rfl rfl rfl ?_
    refine hq_getI 9 rfl rfl rfl ?_
    refine sp_ic_le 12 rfl rfl (fun q => ?_) (fun q => ?_)
    · have k := k.1 q
      refine sp_aload_n 15 rfl rfl rfl ?_
      refine sp_iload_n 16 rfl rfl rfl ?_
      refine hq_putI 19 rfl rfl rfl ?_
      refine sp_iload_n 20 rfl rfl rfl ?_
      exact st_iret rfl rfl (Nat.le_refl _) (Nat.le_refl _) k
    · have k := k.2 q
      refine sp_iconst 13 rfl rfl ?_
      exact st_iret rfl rfl (Nat.le_refl _) (Nat.le_refl _) k
theorem sg_X11_here {SL : Nat} {xs : Nat → Int32} {d : Nat} {p s q : Nat} {Q : Option Value → mm_H → Prop} {a0 : Int32} {I : Nat → Nat → Int32} {J : Nat → Nat → Int64}  (k : (((I 65 5) ≤ ((I 65 4) + a0) → Q (some (.int (Int32.ofInt (-1)))) (hp p s q I J)) ∧ (¬ ((I 65 5) ≤ ((I 65 4) + a0)) → (vp_in ((I 65 4) + a0) 1200 ∧ Q (some (.int (I 66 ((((I 65 4) + a0)).toNatClampNeg)))) (hp p s q I J))))) : mm_s SL xs (d + 1) 168 [.ref 65, .int a0] (hp p s q I J) Q := by
  refine e_X11_here rfl ?_
  refine sp_aload_n 1 rfl rfl rfl ?_
  refine hq_getI 4 rfl rfl rfl ?_
  refine sp_iload_n 5 rfl rfl rfl ?_
  refine sp_iadd 6 rfl rfl ?_
  refine sp_aload_n 7 rfl rfl rfl ?_
  refine hq_getI 10 rfl rfl rfl ?_
  refine sp_ic_ge 13 rfl rfl (fun q => ?_) (fun q => ?_)
  · have k := k.1 q
    refine sp_iconst 28 rfl rfl ?_
    exact st_iret rfl rfl (Nat.le_refl _) (Nat.le_refl _) k
  · have k := k.2 q
    refine sp_aload_n 14 rfl rfl rfl ?_
    refine hq_getR 17 rfl rfl rfl rfl ?_
    refine sp_aload_n 18 rfl rfl rfl ?_
    refine hq_getI 21 rfl rfl rfl ?_
    refine sp_iload_n 22 rfl rfl rfl ?_
    refine sp_iadd 23 rfl rfl ?_
    have n1_ := k.1
    have k := k.2
    refine hq_iald 24 rfl rfl n1_ rfl ?_
    refine sp_goto rfl ?_
    exact st_iret rfl rfl (Nat.le_refl _) (Nat.le_refl _) k
theorem sg_X11_wrong {SL : Nat} {xs : Nat → Int32} {d : Nat} {p s q : Nat} {Q : Option Value → mm_H → Prop} {a0 : Int32} {I : Nat → Nat → Int32} {J : Nat → Nat → Int64}  (k : (((I 65 2) ≤ Int32.ofInt 0 → (((I 65 6) = (Int32.ofInt 3) → Q none (hp p s q (mm_u (mm_u I 65 2 (Int32.ofInt 1)) 65 3 (I 65 7)) J)) ∧ (¬ ((I 65 6) = (Int32.ofInt 3)) → Q none (hp p s q (mm_u (mm_u I 65 2 a0) 65 3 (I 65 7)) J)))) ∧ (¬ ((I 65 2) ≤ Int32.ofInt 0) → Q none (hp p s q I J)))) : mm_s SL xs (d + 1) 173 [.ref 65, .int a0] (hp p s q I J) Q := by
  refine e_X11_wrong rfl ?_
  refine sp_aload_n 1 rfl rfl rfl ?_
  refine hq_getI 4 rfl rfl rfl ?_
  refine sp_if_le 7 rfl rfl (fun q => ?_) (fun q => ?_)
  · have k := k.1 q
    refine sp_aload_n 9 rfl rfl rfl ?_
    refine sp_aload_n 10 rfl rfl rfl ?_
    refine hq_getI 13 rfl rfl rfl ?_
    refine sp_iconst 14 rfl rfl ?_
    refine sp_ic_ne 17 rfl rfl (fun q => ?_) (fun q => ?_)
    · have k := k.2 q
      refine sp_iload_n 22 rfl rfl rfl ?_
      refine hq_putI 25 rfl rfl rfl ?_
      refine sp_aload_n 26 rfl rfl rfl ?_
      refine sp_aload_n 27 rfl rfl rfl ?_
      refine hq_getI 30 rfl rfl rfl ?_
      refine sp_I (y := (I 65 7)) (by simp [mm_u]) ?_
      refine hq_putI 33 rfl rfl rfl ?_
      exact st_vret rfl rfl (Nat.le_refl _) (Nat.le_refl _) k
    · have k := k.1 q
      refine sp_iconst 18 rfl rfl ?_
      refine sp_goto rfl ?_
      refine hq_putI 25 rfl rfl rfl ?_
      refine sp_aload_n 26 rfl rfl rfl ?_
      refine sp_aload_n 27 rfl rfl rfl ?_
      refine hq_getI 30 rfl rfl rfl ?_
      refine sp_I (y := (I 65 7)) (by simp [mm_u]) ?_
      refine hq_putI 33 rfl rfl rfl ?_
      exact st_vret rfl rfl (Nat.le_refl _) (Nat.le_refl _) k
  · have k := k.2 q
    exact st_vret rfl rfl (Nat.le_refl _) (Nat.le_refl _) k
def w_X11_isName_131 (SL : Nat) (xs : Nat → Int32) (d : Nat) (p s q : Nat) (Q : Option Value → mm_H → Prop)  (I : Nat → Nat → Int32) (J : Nat → Nat → Int64) : Prop := mm_w SL xs (mm_s SL xs (d + 0)) mm_am kX11_isName 0 0 (some .boolean) Q 131 [some (.ref 65), none, none] [] (hp p s q I J) 0 0
def w_X11_isName_137 (SL : Nat) (xs : Nat → Int32) (d : Nat) (p s q : Nat) (Q : Option Value → mm_H → Prop) (v1 : Int32) (I : Nat → Nat → Int32) (J : Nat → Nat → Int64) : Prop := mm_w SL xs (mm_s SL xs (d + 0)) mm_am kX11_isName 0 0 (some .boolean) Q 137 [some (.ref 65), some (.int v1), none] [] (hp p s q I J) 0 0
def w_X11_isName_258 (SL : Nat) (xs : Nat → Int32) (d : Nat) (p s q : Nat) (Q : Option Value → mm_H → Prop) (v1 : Int32) (I : Nat → Nat → Int32) (J : Nat → Nat → Int64) : Prop := mm_w SL xs (mm_s SL xs (d + 0)) mm_am kX11_isName 0 0 (some .boolean) Q 258 [some (.ref 65), some (.int v1), none] [] (hp p s q I J) 0 0
def w_X11_isName_264 (SL : Nat) (xs : Nat → Int32) (d : Nat) (p s q : Nat) (Q : Option Value → mm_H → Prop) (v1 : Int32) (v2 : Int32) (I : Nat → Nat → Int32) (J : Nat → Nat → Int64) : Prop := mm_w SL xs (mm_s SL xs (d + 0)) mm_am kX11_isName 0 0 (some .boolean) Q 264 [some (.ref 65), some (.int v1), some (.int v2)] [] (hp p s q I J) 0 0
def w_X11_isName_276 (SL : Nat) (xs : Nat → Int32) (d : Nat) (p s q : Nat) (Q : Option Value → mm_H → Prop) (v1 : Int32) (v2 : Int32) (I : Nat → Nat → Int32) (J : Nat → Nat → Int64) : Prop := mm_w SL xs (mm_s SL xs (d + 0)) mm_am kX11_isName 0 0 (some .boolean) Q 276 [some (.ref 65), some (.int v1), some (.int v2)] [] (hp p s q I J) 0 0
theorem sg_X11_isName {SL : Nat} {xs : Nat → Int32} {d : Nat} {p s q : Nat} {Q : Option Value → mm_H → Prop}  {I : Nat → Nat → Int32} {J : Nat → Nat → Int64}  (k : (((I 65 6) = (Int32.ofInt 1) → (((J 65 9) = (Int64.ofInt 495873781348) → w_X11_isName_131 SL xs d p s q Q  I J) ∧ (¬ ((J 65 9) = (Int64.ofInt 495873781348)) → (((J 65 9) = (Int64.ofInt 422608071022) → w_X11_isName_131 SL xs d p s q Q  I J) ∧ (¬ ((J 65 9) = (Int64.ofInt 422608071022)) → (((J 65 9) = (Int64.ofInt 1818584692) → w_X11_isName_131 SL xs d p s q Q  I J) ∧ (¬ ((J 65 9) = (Int64.ofInt 1818584692)) → (((J 65 9) = (Int64.ofInt 427071729268) → w_X11_isName_131 SL xs d p s q Q  I J) ∧ (¬ ((J 65 9) = (Int64.ofInt 427071729268)) → (((J 65 9) = (Int64.ofInt 1953854062) → w_X11_isName_131 SL xs d p s q Q  I J) ∧ (¬ ((J 65 9) = (Int64.ofInt 1953854062)) → (((J 65 9) = (Int64.ofInt 418346264942) → w_X11_isName_131 SL xs d p s q Q  I J) ∧ (¬ ((J 65 9) = (Int64.ofInt 418346264942)) → (((J 65 9) = (Int64.ofInt 6451065) → w_X11_isName_131 SL xs d p s q Q  I J) ∧ (¬ ((J 65 9) = (Int64.ofInt 6451065)) → (((J 65 9) = (Int64.ofInt 444350952036) → w_X11_isName_131 SL xs d p s q Q  I J) ∧ (¬ ((J 65 9) = (Int64.ofInt 444350952036)) → (((J 65 9) = (Int64.ofInt 29807) → w_X11_isName_131 SL xs d p s q Q  I J) ∧ (¬ ((J 65 9) = (Int64.ofInt 29807)) → (((J 65 9) = (Int64.ofInt 491379060069) → w_X11_isName_131 SL xs d p s q Q  I J) ∧ (¬ ((J 65 9) = (Int64.ofInt 491379060069)) → (((J 65 9) = (Int64.ofInt 123581014175598) → w_X11_isName_131 SL xs d p s q Q  I J) ∧ (¬ ((J 65 9) = (Int64.ofInt 123581014175598)) → w_X11_isName_137 SL xs d p s q Q (Int32.ofInt 0) I J))))))))))))))))))))))) ∧ (¬ ((I 65 6) = (Int32.ofInt 1)) → Q (some (.int (Int32.ofInt 0))) (hp p s q I J)))) : mm_s SL xs (d + 1) 175 [.ref 65] (hp p s q I J) Q := by
  refine e_X11_isName rfl ?_
  refine sp_aload_n 1 rfl rfl rfl ?_
  refine hq_getI 4 rfl rfl rfl ?_
  refine sp_iconst 5 rfl rfl ?_
  refine sp_ic_eq 8 rfl rfl (fun q => ?_) (fun q => ?_)
  · have k := k.1 q
    refine sp_aload_n 11 rfl rfl rfl ?_
    refine hq_getJ 14 rfl rfl rfl ?_
    refine sp_ldc2 17 rfl rfl ?_
    refine sp_lcmp 18 rfl rfl ?_
    refine sp_if_eq 21 rfl rfl (fun q => ?_) (fun q => ?_)
    · have k := k.1 ((lg_cmp_eq _ _).mp q)
      exact k
    · have k := k.2 (fun z => q ((lg_cmp_eq _ _).mpr z))
      refine sp_aload_n 22 rfl rfl rfl ?_
      refine hq_getJ 25 rfl rfl rfl ?_
      refine sp_ldc2 28 rfl rfl ?_
      refine sp_lcmp 29 rfl rfl ?_
      refine sp_if_eq 32 rfl rfl (fun q => ?_) (fun q => ?_)
      · have k := k.1 ((lg_cmp_eq _ _).mp q)
        exact k
      · have k := k.2 (fun z => q ((lg_cmp_eq _ _).mpr z))
        refine sp_aload_n 33 rfl rfl rfl ?_
        refine hq_getJ 36 rfl rfl rfl ?_
        refine sp_ldc2 39 rfl rfl ?_
        refine sp_lcmp 40 rfl rfl ?_
        refine sp_if_eq 43 rfl rfl (fun q => ?_) (fun q => ?_)
        · have k := k.1 ((lg_cmp_eq _ _).mp q)
          exact k
        · have k := k.2 (fun z => q ((lg_cmp_eq _ _).mpr z))
          refine sp_aload_n 44 rfl rfl rfl ?_
          refine hq_getJ 47 rfl rfl rfl ?_
          refine sp_ldc2 50 rfl rfl ?_
          refine sp_lcmp 51 rfl rfl ?_
          refine sp_if_eq 54 rfl rfl (fun q => ?_) (fun q => ?_)
          · have k := k.1 ((lg_cmp_eq _ _).mp q)
            exact k
          · have k := k.2 (fun z => q ((lg_cmp_eq _ _).mpr z))
            refine sp_aload_n 55 rfl rfl rfl ?_
            refine hq_getJ 58 rfl rfl rfl ?_
            refine sp_ldc2 61 rfl rfl ?_
            refine sp_lcmp 62 rfl rfl ?_
            refine sp_if_eq 65 rfl rfl (fun q => ?_) (fun q => ?_)
            · have k := k.1 ((lg_cmp_eq _ _).mp q)
              exact k
            · have k := k.2 (fun z => q ((lg_cmp_eq _ _).mpr z))
              refine sp_aload_n 66 rfl rfl rfl ?_
              refine hq_getJ 69 rfl rfl rfl ?_
              refine sp_ldc2 72 rfl rfl ?_
              refine sp_lcmp 73 rfl rfl ?_
              refine sp_if_eq 76 rfl rfl (fun q => ?_) (fun q => ?_)
              · have k := k.1 ((lg_cmp_eq _ _).mp q)
                exact k
              · have k := k.2 (fun z => q ((lg_cmp_eq _ _).mpr z))
                refine sp_aload_n 77 rfl rfl rfl ?_
                refine hq_getJ 80 rfl rfl rfl ?_
                refine sp_ldc2 83 rfl rfl ?_
                refine sp_lcmp 84 rfl rfl ?_
                refine sp_if_eq 87 rfl rfl (fun q => ?_) (fun q => ?_)
                · have k := k.1 ((lg_cmp_eq _ _).mp q)
                  exact k
                · have k := k.2 (fun z => q ((lg_cmp_eq _ _).mpr z))
                  refine sp_aload_n 88 rfl rfl rfl ?_
                  refine hq_getJ 91 rfl rfl rfl ?_
                  refine sp_ldc2 94 rfl rfl ?_
                  refine sp_lcmp 95 rfl rfl ?_
                  refine sp_if_eq 98 rfl rfl (fun q => ?_) (fun q => ?_)
                  · have k := k.1 ((lg_cmp_eq _ _).mp q)
                    exact k
                  · have k := k.2 (fun z => q ((lg_cmp_eq _ _).mpr z))
                    refine sp_aload_n 99 rfl rfl rfl ?_
                    refine hq_getJ 102 rfl rfl rfl ?_
                    refine sp_ldc2 105 rfl rfl ?_
                    refine sp_lcmp 106 rfl rfl ?_
                    refine sp_if_eq 109 rfl rfl (fun q => ?_) (fun q => ?_)
                    · have k := k.1 ((lg_cmp_eq _ _).mp q)
                      exact k
                    · have k := k.2 (fun z => q ((lg_cmp_eq _ _).mpr z))
                      refine sp_aload_n 110 rfl rfl rfl ?_
                      refine hq_getJ 113 rfl rfl rfl ?_
                      refine sp_ldc2 116 rfl rfl ?_
                      refine sp_lcmp 117 rfl rfl ?_
                      refine sp_if_eq 120 rfl rfl (fun q => ?_) (fun q => ?_)
                      · have k := k.1 ((lg_cmp_eq _ _).mp q)
                        exact k
                      · have k := k.2 (fun z => q ((lg_cmp_eq _ _).mpr z))
                        refine sp_aload_n 121 rfl rfl rfl ?_
                        refine hq_getJ 124 rfl rfl rfl ?_
                        refine sp_ldc2 127 rfl rfl ?_
                        refine sp_lcmp 128 rfl rfl ?_
                        refine sp_if_ne 131 rfl rfl (fun q => ?_) (fun q => ?_)
                        · have k := k.2 (fun z => q ((lg_cmp_eq _ _).mpr z))
                          refine sp_iconst 136 rfl rfl ?_
                          refine sp_istore_n 137 rfl rfl rfl ?_
                          exact k
                        · have k := k.1 ((lg_cmp_eq _ _).mp q)
                          exact k
  · have k := k.2 q
    refine sp_iconst 9 rfl rfl ?_
    exact st_zret rfl rfl (by decide) (Nat.le_refl _) (Nat.le_refl _) k
theorem sg_X11_isName_131 {SL : Nat} {xs : Nat → Int32} {d : Nat} {p s q : Nat} {Q : Option Value → mm_H → Prop}  {I : Nat → Nat → Int32} {J : Nat → Nat → Int64}  (k : w_X11_isName_137 SL xs d p s q Q (Int32.ofInt 1) I J) : w_X11_isName_131 SL xs d p s q Q  I J := by
  unfold w_X11_isName_131
  refine sp_iconst 132 rfl rfl ?_
  refine sp_goto rfl ?_
  refine sp_istore_n 137 rfl rfl rfl ?_
  exact k
theorem sg_X11_isName_137 {SL : Nat} {xs : Nat → Int32} {d : Nat} {p s q : Nat} {Q : Option Value → mm_H → Prop} {v1 : Int32} {I : Nat → Nat → Int32} {J : Nat → Nat → Int64}  (k : (((J 65 9) = (Int64.ofInt 512970880104) → w_X11_isName_258 SL xs d p s q Q v1 I J) ∧ (¬ ((J 65 9) = (Int64.ofInt 512970880104)) → (((J 65 9) = (Int64.ofInt 431415719790) → w_X11_isName_258 SL xs d p s q Q v1 I J) ∧ (¬ ((J 65 9) = (Int64.ofInt 431415719790)) → (((J 65 9) = (Int64.ofInt 131277443786868) → w_X11_isName_258 SL xs d p s q Q v1 I J) ∧ (¬ ((J 65 9) = (Int64.ofInt 131277443786868)) → (((J 65 9) = (Int64.ofInt 444250812007) → w_X11_isName_258 SL xs d p s q Q v1 I J) ∧ (¬ ((J 65 9) = (Int64.ofInt 444250812007)) → (((J 65 9) = (Int64.ofInt 1751478885) → w_X11_isName_258 SL xs d p s q Q v1 I J) ∧ (¬ ((J 65 9) = (Int64.ofInt 1751478885)) → (((J 65 9) = (Int64.ofInt 1818325876) → w_X11_isName_258 SL xs d p s q Q v1 I J) ∧ (¬ ((J 65 9) = (Int64.ofInt 1818325876)) → (((J 65 9) = (Int64.ofInt 512970876019) → w_X11_isName_258 SL xs d p s q Q v1 I J) ∧ (¬ ((J 65 9) = (Int64.ofInt 512970876019)) → (((J 65 9) = (Int64.ofInt 495689625203) → w_X11_isName_258 SL xs d p s q Q v1 I J) ∧ (¬ ((J 65 9) = (Int64.ofInt 495689625203)) → (((J 65 9) = (Int64.ofInt 6385252) → w_X11_isName_258 SL xs d p s q Q v1 I J) ∧ (¬ ((J 65 9) = (Int64.ofInt 6385252)) → (((J 65 9) = (Int64.ofInt 28530) → w_X11_isName_258 SL xs d p s q Q v1 I J) ∧ (¬ ((J 65 9) = (Int64.ofInt 28530)) → (((J 65 9) = (Int64.ofInt 7237492) → w_X11_isName_258 SL xs d p s q Q v1 I J) ∧ (¬ ((J 65 9) = (Int64.ofInt 7237492)) → w_X11_isName_264 SL xs d p s q Q v1 (Int32.ofInt 0) I J))))))))))))))))))))))) : w_X11_isName_137 SL xs d p s q Q v1 I J := by
  unfold w_X11_isName_137
  refine sp_aload_n 138 rfl rfl rfl ?_
  refine hq_getJ 141 rfl rfl rfl ?_
  refine sp_ldc2 144 rfl rfl ?_
  refine sp_lcmp 145 rfl rfl ?_
  refine sp_if_eq 148 rfl rfl (fun q => ?_) (fun q => ?_)
  · have k := k.1 ((lg_cmp_eq _ _).mp q)
    exact k
  · have k := k.2 (fun z => q ((lg_cmp_eq _ _).mpr z))
    refine sp_aload_n 149 rfl rfl rfl ?_
    refine hq_getJ 152 rfl rfl rfl ?_
    refine sp_ldc2 155 rfl rfl ?_
    refine sp_lcmp 156 rfl rfl ?_
    refine sp_if_eq 159 rfl rfl (fun q => ?_) (fun q => ?_)
    · have k := k.1 ((lg_cmp_eq _ _).mp q)
      exact k
    · have k := k.2 (fun z => q ((lg_cmp_eq _ _).mpr z))
      refine sp_aload_n 160 rfl rfl rfl ?_
      refine hq_getJ 163 rfl rfl rfl ?_
      refine sp_ldc2 166 rfl rfl ?_
      refine sp_lcmp 167 rfl rfl ?_
      refine sp_if_eq 170 rfl rfl (fun q => ?_) (fun q => ?_)
      · have k := k.1 ((lg_cmp_eq _ _).mp q)
        exact k
      · have k := k.2 (fun z => q ((lg_cmp_eq _ _).mpr z))
        refine sp_aload_n 171 rfl rfl rfl ?_
        refine hq_getJ 174 rfl rfl rfl ?_
        refine sp_ldc2 177 rfl rfl ?_
        refine sp_lcmp 178 rfl rfl ?_
        refine sp_if_eq 181 rfl rfl (fun q => ?_) (fun q => ?_)
        · have k := k.1 ((lg_cmp_eq _ _).mp q)
          exact k
        · have k := k.2 (fun z => q ((lg_cmp_eq _ _).mpr z))
          refine sp_aload_n 182 rfl rfl rfl ?_
          refine hq_getJ 185 rfl rfl rfl ?_
          refine sp_ldc2 188 rfl rfl ?_
          refine sp_lcmp 189 rfl rfl ?_
          refine sp_if_eq 192 rfl rfl (fun q => ?_) (fun q => ?_)
          · have k := k.1 ((lg_cmp_eq _ _).mp q)
            exact k
          · have k := k.2 (fun z => q ((lg_cmp_eq _ _).mpr z))
            refine sp_aload_n 193 rfl rfl rfl ?_
            refine hq_getJ 196 rfl rfl rfl ?_
            refine sp_ldc2 199 rfl rfl ?_
            refine sp_lcmp 200 rfl rfl ?_
            refine sp_if_eq 203 rfl rfl (fun q => ?_) (fun q => ?_)
            · have k := k.1 ((lg_cmp_eq _ _).mp q)
              exact k
            · have k := k.2 (fun z => q ((lg_cmp_eq _ _).mpr z))
              refine sp_aload_n 204 rfl rfl rfl ?_
              refine hq_getJ 207 rfl rfl rfl ?_
              refine sp_ldc2 210 rfl rfl ?_
              refine sp_lcmp 211 rfl rfl ?_
              refine sp_if_eq 214 rfl rfl (fun q => ?_) (fun q => ?_)
              · have k := k.1 ((lg_cmp_eq _ _).mp q)
                exact k
              · have k := k.2 (fun z => q ((lg_cmp_eq _ _).mpr z))
                refine sp_aload_n 215 rfl rfl rfl ?_
                refine hq_getJ 218 rfl rfl rfl ?_
                refine sp_ldc2 221 rfl rfl ?_
                refine sp_lcmp 222 rfl rfl ?_
                refine sp_if_eq 225 rfl rfl (fun q => ?_) (fun q => ?_)
                · have k := k.1 ((lg_cmp_eq _ _).mp q)
                  exact k
                · have k := k.2 (fun z => q ((lg_cmp_eq _ _).mpr z))
                  refine sp_aload_n 226 rfl rfl rfl ?_
                  refine hq_getJ 229 rfl rfl rfl ?_
                  refine sp_ldc2 232 rfl rfl ?_
                  refine sp_lcmp 233 rfl rfl ?_
                  refine sp_if_eq 236 rfl rfl (fun q => ?_) (fun q => ?_)
                  · have k := k.1 ((lg_cmp_eq _ _).mp q)
                    exact k
                  · have k := k.2 (fun z => q ((lg_cmp_eq _ _).mpr z))
                    refine sp_aload_n 237 rfl rfl rfl ?_
                    refine hq_getJ 240 rfl rfl rfl ?_
                    refine sp_ldc2 243 rfl rfl ?_
                    refine sp_lcmp 244 rfl rfl ?_
                    refine sp_if_eq 247 rfl rfl (fun q => ?_) (fun q => ?_)
                    · have k := k.1 ((lg_cmp_eq _ _).mp q)
                      exact k
                    · have k := k.2 (fun z => q ((lg_cmp_eq _ _).mpr z))
                      refine sp_aload_n 248 rfl rfl rfl ?_
                      refine hq_getJ 251 rfl rfl rfl ?_
                      refine sp_ldc2 254 rfl rfl ?_
                      refine sp_lcmp 255 rfl rfl ?_
                      refine sp_if_ne 258 rfl rfl (fun q => ?_) (fun q => ?_)
                      · have k := k.2 (fun z => q ((lg_cmp_eq _ _).mpr z))
                        refine sp_iconst 263 rfl rfl ?_
                        refine sp_istore_n 264 rfl rfl rfl ?_
                        exact k
                      · have k := k.1 ((lg_cmp_eq _ _).mp q)
                        exact k
theorem sg_X11_isName_258 {SL : Nat} {xs : Nat → Int32} {d : Nat} {p s q : Nat} {Q : Option Value → mm_H → Prop} {v1 : Int32} {I : Nat → Nat → Int32} {J : Nat → Nat → Int64}  (k : w_X11_isName_264 SL xs d p s q Q v1 (Int32.ofInt 1) I J) : w_X11_isName_258 SL xs d p s q Q v1 I J := by
  unfold w_X11_isName_258
  refine sp_iconst 259 rfl rfl ?_
  refine sp_goto rfl ?_
  refine sp_istore_n 264 rfl rfl rfl ?_
  exact k
theorem sg_X11_isName_264 {SL : Nat} {xs : Nat → Int32} {d : Nat} {p s q : Nat} {Q : Option Value → mm_H → Prop} {v1 : Int32} {v2 : Int32} {I : Nat → Nat → Int32} {J : Nat → Nat → Int64}  (k : ((v1 = Int32.ofInt 0 → ((v2 = Int32.ofInt 0 → Q (some (.int (Int32.ofInt 1))) (hp p s q I J)) ∧ (¬ (v2 = Int32.ofInt 0) → w_X11_isName_276 SL xs d p s q Q v1 v2 I J))) ∧ (¬ (v1 = Int32.ofInt 0) → w_X11_isName_276 SL xs d p s q Q v1 v2 I J))) : w_X11_isName_264 SL xs d p s q Q v1 v2 I J := by
  unfold w_X11_isName_264
  refine sp_iload_n 265 rfl rfl rfl ?_
  refine sp_if_ne 268 rfl rfl (fun q => ?_) (fun q => ?_)
  · have k := k.2 q
    exact k
  · have k := k.1 q
    refine sp_iload_n 269 rfl rfl rfl ?_
    refine sp_if_ne 272 rfl rfl (fun q => ?_) (fun q => ?_)
    · have k := k.2 q
      exact k
    · have k := k.1 q
      refine sp_iconst 273 rfl rfl ?_
      refine sp_goto rfl ?_
      exact st_zret rfl rfl (by decide) (Nat.le_refl _) (Nat.le_refl _) k
theorem sg_X11_isName_276 {SL : Nat} {xs : Nat → Int32} {d : Nat} {p s q : Nat} {Q : Option Value → mm_H → Prop} {v1 : Int32} {v2 : Int32} {I : Nat → Nat → Int32} {J : Nat → Nat → Int64}  (k : Q (some (.int (Int32.ofInt 0))) (hp p s q I J)) : w_X11_isName_276 SL xs d p s q Q v1 v2 I J := by
  unfold w_X11_isName_276
  refine sp_iconst 277 rfl rfl ?_
  exact st_zret rfl rfl (by decide) (Nat.le_refl _) (Nat.le_refl _) k
theorem sg_X11_note {SL : Nat} {xs : Nat → Int32} {d : Nat} {p s q : Nat} {Q : Option Value → mm_H → Prop} {a0 : Int32} {a1 : Int32} {I : Nat → Nat → Int32} {J : Nat → Nat → Int64}  (k : (vp_in (I 65 18) 500 ∧ Q none (hp p s q (mm_u (mm_u (mm_u I 67 (((I 65 18)).toNatClampNeg) a0) 68 (((I 65 18)).toNatClampNeg) a1) 65 18 ((I 65 18) + (Int32.ofInt 1))) J))) : mm_s SL xs (d + 1) 179 [.ref 65, .int a0, .int a1] (hp p s q I J) Q := by
  refine e_X11_note rfl ?_
  refine sp_aload_n 1 rfl rfl rfl ?_
  refine hq_getR 4 rfl rfl rfl rfl ?_
  refine sp_aload_n 5 rfl rfl rfl ?_
  refine hq_getI 8 rfl rfl rfl ?_
  refine sp_iload_n 9 rfl rfl rfl ?_
  have n1_ := k.1
  have k := k.2
  refine hq_iast 10 rfl rfl n1_ rfl ?_
  refine sp_aload_n 11 rfl rfl rfl ?_
  refine hq_getR 14 rfl rfl rfl rfl ?_
  refine sp_aload_n 15 rfl rfl rfl ?_
  refine hq_getI 18 rfl rfl rfl ?_
  refine sp_I (y := (I 65 18)) (by simp [mm_u]) ?_
  refine sp_iload_n 19 rfl rfl rfl ?_
  refine hq_iast 20 rfl rfl n1_ rfl ?_
  refine sp_aload_n 21 rfl rfl rfl ?_
  refine sp_dup 22 rfl rfl rfl ?_
  refine hq_getI 25 rfl rfl rfl ?_
  refine sp_I (y := (I 65 18)) (by simp [mm_u]) ?_
  refine sp_iconst 26 rfl rfl ?_
  refine sp_iadd 27 rfl rfl ?_
  refine hq_putI 30 rfl rfl rfl ?_
  exact st_vret rfl rfl (Nat.le_refl _) (Nat.le_refl _) k
theorem sg_X11_upper {SL : Nat} {xs : Nat → Int32} {d : Nat} {p s q : Nat} {Q : Option Value → mm_H → Prop}  {I : Nat → Nat → Int32} {J : Nat → Nat → Int64}  (k : (((I 65 22) = Int32.ofInt 0 → Q (some (.int (Int32.ofInt 40))) (hp p s q I J)) ∧ (¬ ((I 65 22) = Int32.ofInt 0) → (vp_in ((I 65 22) - (Int32.ofInt 1)) 300 ∧ Q (some (.int (I 71 ((((I 65 22) - (Int32.ofInt 1))).toNatClampNeg)))) (hp p s q I J))))) : mm_s SL xs (d + 1) 180 [.ref 65] (hp p s q I J) Q := by
  refine e_X11_upper rfl ?_
  refine sp_aload_n 1 rfl rfl rfl ?_
  refine hq_getI 4 rfl rfl rfl ?_
  refine sp_if_ne 7 rfl rfl (fun q => ?_) (fun q => ?_)
  · have k := k.2 q
    refine sp_aload_n 13 rfl rfl rfl ?_
    refine hq_getR 16 rfl rfl rfl rfl ?_
    refine sp_aload_n 17 rfl rfl rfl ?_
    refine hq_getI 20 rfl rfl rfl ?_
    refine sp_iconst 21 rfl rfl ?_
    refine sp_isub 22 rfl rfl ?_
    have n1_ := k.1
    have k := k.2
    refine hq_iald 23 rfl rfl n1_ rfl ?_
    exact st_iret rfl rfl (Nat.le_refl _) (Nat.le_refl _) k
  · have k := k.1 q
    refine sp_bipush 9 rfl rfl ?_
    refine sp_I (y := Int32.ofInt 40) rfl ?_
    refine sp_goto rfl ?_
    exact st_iret rfl rfl (Nat.le_refl _) (Nat.le_refl _) k
theorem sg_X11_hold {SL : Nat} {xs : Nat → Int32} {d : Nat} {p s q : Nat} {Q : Option Value → mm_H → Prop} {a0 : Int32} {I : Nat → Nat → Int32} {J : Nat → Nat → Int64}  (k : (vp_in (I 65 22) 300 ∧ ((a0 = (Int32.ofInt 40) → Q none (hp p s q (mm_u (mm_u (mm_u I 71 (((I 65 22)).toNatClampNeg) a0) 65 22 ((I 65 22) + (Int32.ofInt 1))) 65 23 ((I 65 23) + (Int32.ofInt 1))) J)) ∧ (¬ (a0 = (Int32.ofInt 40)) → ((a0 = (Int32.ofInt 22) → Q none (hp p s q (mm_u (mm_u (mm_u I 71 (((I 65 22)).toNatClampNeg) a0) 65 22 ((I 65 22) + (Int32.ofInt 1))) 65 23 ((I 65 23) + (Int32.ofInt 1))) J)) ∧ (¬ (a0 = (Int32.ofInt 22)) → Q none (hp p s q (mm_u (mm_u I 71 (((I 65 22)).toNatClampNeg) a0) 65 22 ((I 65 22) + (Int32.ofInt 1))) J))))))) : mm_s SL xs (d + 1) 181 [.ref 65, .int a0] (hp p s q I J) Q := by
  refine e_X11_hold rfl ?_
  refine sp_aload_n 1 rfl rfl rfl ?_
  refine hq_getR 4 rfl rfl rfl rfl ?_
  refine sp_aload_n 5 rfl rfl rfl ?_
  refine hq_getI 8 rfl rfl rfl ?_
  refine sp_iload_n 9 rfl rfl rfl ?_
  have n1_ := k.1
  have k := k.2
  refine hq_iast 10 rfl rfl n1_ rfl ?_
  refine sp_aload_n 11 rfl rfl rfl ?_
  refine sp_dup 12 rfl rfl rfl ?_
  refine hq_getI 15 rfl rfl rfl ?_
  refine sp_I (y := (I 65 22)) (by simp [mm_u]) ?_
  refine sp_iconst 16 rfl rfl ?_
  refine sp_iadd 17 rfl rfl ?_
  refine hq_putI 20 rfl rfl rfl ?_
  refine sp_iload_n 21 rfl rfl rfl ?_
  refine sp_bipush 23 rfl rfl ?_
  refine sp_I (y := Int32.ofInt 40) rfl ?_
  refine sp_ic_eq 26 rfl rfl (fun q => ?_) (fun q => ?_)
  · have k := k.1 q
    refine sp_aload_n 33 rfl rfl rfl ?_
    refine sp_dup 34 rfl rfl rfl ?_
    refine hq_getI 37 rfl rfl rfl ?_
    refine sp_I (y := (I 65 23)) (by simp [mm_u]) ?_
    refine sp_iconst 38 rfl rfl ?_
    refine sp_iadd 39 rfl rfl ?_
    refine hq_putI 42 rfl rfl rfl ?_
    exact st_vret rfl rfl (Nat.le_refl _) (Nat.le_refl _) k
  · have k := k.2 q
    refine sp_iload_n 27 rfl rfl rfl ?_
    refine sp_bipush 29 rfl rfl ?_
    refine sp_I (y := Int32.ofInt 22) rfl ?_
    refine sp_ic_ne 32 rfl rfl (fun q => ?_) (fun q => ?_)
    · have k := k.2 q
      exact st_vret rfl rfl (Nat.le_refl _) (Nat.le_refl _) k
    · have k := k.1 q
      refine sp_aload_n 33 rfl rfl rfl ?_
      refine sp_dup 34 rfl rfl rfl ?_
      refine hq_getI 37 rfl rfl rfl ?_
      refine sp_I (y := (I 65 23)) (by simp [mm_u]) ?_
      refine sp_iconst 38 rfl rfl ?_
      refine sp_iadd 39 rfl rfl ?_
      refine hq_putI 42 rfl rfl rfl ?_
      exact st_vret rfl rfl (Nat.le_refl _) (Nat.le_refl _) k
def w_X11_isOpen_4 (SL : Nat) (xs : Nat → Int32) (d : Nat) (p s q : Nat) (Q : Option Value → mm_H → Prop) (v1 : Int32) (v2 : Int32) (I : Nat → Nat → Int32) (J : Nat → Nat → Int64) : Prop := mm_w SL xs (mm_s SL xs (d + 0)) mm_am kX11_isOpen 0 0 (some .boolean) Q 4 [some (.ref 65), some (.int v1), some (.int v2)] [] (hp p s q I J) 0 0
theorem sg_X11_isOpen {SL : Nat} {xs : Nat → Int32} {d : Nat} {p s q : Nat} {Q : Option Value → mm_H → Prop}  {I : Nat → Nat → Int32} {J : Nat → Nat → Int64}  (k : w_X11_isOpen_4 SL xs d p s q Q (Int32.ofInt 0) (Int32.ofInt 0) I J) : mm_s SL xs (d + 1) 185 [.ref 65] (hp p s q I J) Q := by
  refine e_X11_isOpen rfl ?_
  refine sp_iconst 1 rfl rfl ?_
  refine sp_istore_n 2 rfl rfl rfl ?_
  refine sp_iconst 3 rfl rfl ?_
  refine sp_istore_n 4 rfl rfl rfl ?_
  exact k
theorem sg_X11_isOpen_4 {SL : Nat} {xs : Nat → Int32} {d : Nat} {p s q : Nat} {Q : Option Value → mm_H → Prop} {v1 : Int32} {v2 : Int32} {I : Nat → Nat → Int32} {J : Nat → Nat → Int64}  (k : (((I 65 22) ≤ v2 → ((v1 = 0 ∨ v1 = 1) ∧ Q (some (.int v1)) (hp p s q I J))) ∧ (¬ ((I 65 22) ≤ v2) → ((v1 = Int32.ofInt 0 → (vp_in v2 300 ∧ (((I 71 ((v2).toNatClampNeg)) = (Int32.ofInt 40) → w_X11_isOpen_4 SL xs d p s q Q (Int32.ofInt 1) (v2 + Int32.ofInt 1) I J) ∧ (¬ ((I 71 ((v2).toNatClampNeg)) = (Int32.ofInt 40)) → w_X11_isOpen_4 SL xs d p s q Q (Int32.ofInt 0) (v2 + Int32.ofInt 1) I J)))) ∧ (¬ (v1 = Int32.ofInt 0) → w_X11_isOpen_4 SL xs d p s q Q (Int32.ofInt 1) (v2 + Int32.ofInt 1) I J))))) : w_X11_isOpen_4 SL xs d p s q Q v1 v2 I J := by
  unfold w_X11_isOpen_4
  refine sp_iload_n 5 rfl rfl rfl ?_
  refine sp_aload_n 6 rfl rfl rfl ?_
  refine hq_getI 9 rfl rfl rfl ?_
  refine sp_ic_ge 12 rfl rfl (fun q => ?_) (fun q => ?_)
  · have k := k.1 q
    refine sp_iload_n 40 rfl rfl rfl ?_
    exact st_zret rfl rfl k.1 (Nat.le_refl _) (Nat.le_refl _) k.2
  · have k := k.2 q
    refine sp_iload_n 13 rfl rfl rfl ?_
    refine sp_if_ne 16 rfl rfl (fun q => ?_) (fun q => ?_)
    · have k := k.2 q
      refine sp_iconst 28 rfl rfl ?_
      refine sp_goto rfl ?_
      refine sp_istore_n 33 rfl rfl rfl ?_
      refine sp_iinc 36 rfl rfl rfl rfl ?_
      refine sp_goto rfl ?_
      exact k
    · have k := k.1 q
      refine sp_aload_n 17 rfl rfl rfl ?_
      refine hq_getR 20 rfl rfl rfl rfl ?_
      refine sp_iload_n 21 rfl rfl rfl ?_
      have n1_ := k.1
      have k := k.2
      refine hq_iald 22 rfl rfl n1_ rfl ?_
      refine sp_bipush 24 rfl rfl ?_
      refine sp_I (y := Int32.ofInt 40) rfl ?_
      refine sp_ic_ne 27 rfl rfl (fun q => ?_) (fun q => ?_)
      · have k := k.2 q
        refine sp_iconst 32 rfl rfl ?_
        refine sp_istore_n 33 rfl rfl rfl ?_
        refine sp_iinc 36 rfl rfl rfl rfl ?_
        refine sp_goto rfl ?_
        exact k
      · have k := k.1 q
        refine sp_iconst 28 rfl rfl ?_
        refine sp_goto rfl ?_
        refine sp_istore_n 33 rfl rfl rfl ?_
        refine sp_iinc 36 rfl rfl rfl rfl ?_
        refine sp_goto rfl ?_
        exact k
def w_X11_fresh_2 (SL : Nat) (xs : Nat → Int32) (d : Nat) (p s q : Nat) (Q : Option Value → mm_H → Prop) (v1 : Int32) (v2 : Int32) (I : Nat → Nat → Int32) (J : Nat → Nat → Int64) : Prop := mm_w SL xs (mm_s SL xs (d + 0)) mm_am kX11_fresh 0 0 none Q 2 [some (.ref 65), some (.int v1), some (.int v2)] [] (hp p s q I J) 0 0
theorem sg_X11_fresh {SL : Nat} {xs : Nat → Int32} {d : Nat} {p s q : Nat} {Q : Option Value → mm_H → Prop} {a0 : Int32} {I : Nat → Nat → Int32} {J : Nat → Nat → Int64}  (k : w_X11_fresh_2 SL xs d p s q Q a0 (Int32.ofInt 0) I J) : mm_s SL xs (d + 1) 202 [.ref 65, .int a0] (hp p s q I J) Q := by
  refine e_X11_fresh rfl ?_
  refine sp_iconst 1 rfl rfl ?_
  refine sp_istore_n 2 rfl rfl rfl ?_
  exact k
theorem sg_X11_fresh_2 {SL : Nat} {xs : Nat → Int32} {d : Nat} {p s q : Nat} {Q : Option Value → mm_H → Prop} {v1 : Int32} {v2 : Int32} {I : Nat → Nat → Int32} {J : Nat → Nat → Int64}  (k : (((Int32.ofInt 60) ≤ v2 → (vp_in (Int32.ofInt 0) 2 ∧ (vp_in (Int32.ofInt 1) 2 ∧ Q none (hp p s q (mm_u (mm_u (mm_u (mm_u (mm_u (mm_u (mm_u (mm_u (mm_u (mm_u (mm_u I 65 59 (I 65 47)) 65 60 (Int32.ofInt 0)) 65 61 (Int32.ofInt 0)) 65 62 (Int32.ofInt 0)) 90 (((Int32.ofInt 0)).toNatClampNeg) (Int32.ofInt (-1))) 90 (((Int32.ofInt 1)).toNatClampNeg) (Int32.ofInt (-1))) 65 64 (Int32.ofInt 0)) 65 63 v1) 65 78 (I 65 49)) 65 76 (Int32.ofInt 0)) 65 77 (Int32.ofInt 0)) J)))) ∧ (¬ ((Int32.ofInt 60) ≤ v2) → (((I 65 47) ≤ v2 → (vp_in v2 60 ∧ w_X11_fresh_2 SL xs d p s q Q v1 (v2 + Int32.ofInt 1) (mm_u (mm_u (mm_u (mm_u I 91 ((v2).toNatClampNeg) (Int32.ofInt 0)) 87 ((v2).toNatClampNeg) (Int32.ofInt 0)) 88 ((v2).toNatClampNeg) (Int32.ofInt (-1))) 89 ((v2).toNatClampNeg) (Int32.ofInt (-1))) J)) ∧ (¬ ((I 65 47) ≤ v2) → (vp_in v2 60 ∧ w_X11_fresh_2 SL xs d p s q Q v1 (v2 + Int32.ofInt 1) (mm_u (mm_u (mm_u (mm_u I 91 ((v2).toNatClampNeg) (Int32.ofInt 1)) 87 ((v2).toNatClampNeg) (Int32.ofInt 0)) 88 ((v2).toNatClampNeg) (Int32.ofInt (-1))) 89 ((v2).toNatClampNeg) (Int32.ofInt (-1))) J)))))) : w_X11_fresh_2 SL xs d p s q Q v1 v2 I J := by
  unfold w_X11_fresh_2
  refine sp_iload_n 3 rfl rfl rfl ?_
  refine sp_bipush 5 rfl rfl ?_
  refine sp_I (y := Int32.ofInt 60) rfl ?_
  refine sp_ic_ge 8 rfl rfl (fun q => ?_) (fun q => ?_)
  · have k := k.1 q
    refine sp_aload_n 55 rfl rfl rfl ?_
    refine sp_aload_n 56 rfl rfl rfl ?_
    refine hq_getI 59 rfl rfl rfl ?_
    refine hq_putI 62 rfl rfl rfl ?_
    refine sp_aload_n 63 rfl rfl rfl ?_
    refine sp_iconst 64 rfl rfl ?_
    refine hq_putI 67 rfl rfl rfl ?_
    refine sp_aload_n 68 rfl rfl rfl ?_
    refine sp_iconst 69 rfl rfl ?_
    refine hq_putI 72 rfl rfl rfl ?_
    refine sp_aload_n 73 rfl rfl rfl ?_
    refine sp_iconst 74 rfl rfl ?_
    refine hq_putI 77 rfl rfl rfl ?_
    refine sp_aload_n 78 rfl rfl rfl ?_
    refine hq_getR 81 rfl rfl rfl rfl ?_
    refine sp_iconst 82 rfl rfl ?_
    refine sp_iconst 83 rfl rfl ?_
    have n1_ := k.1
    have k := k.2
    refine hq_iast 84 rfl rfl n1_ rfl ?_
    refine sp_aload_n 85 rfl rfl rfl ?_
    refine hq_getR 88 rfl rfl rfl rfl ?_
    refine sp_iconst 89 rfl rfl ?_
    refine sp_iconst 90 rfl rfl ?_
    have n2_ := k.1
    have k := k.2
    refine hq_iast 91 rfl rfl n2_ rfl ?_
    refine sp_aload_n 92 rfl rfl rfl ?_
    refine sp_iconst 93 rfl rfl ?_
    refine hq_putZ 96 rfl rfl (by decide) rfl ?_
    refine sp_aload_n 97 rfl rfl rfl ?_
    refine sp_iload_n 98 rfl rfl rfl ?_
    refine hq_putI 101 rfl rfl rfl ?_
    refine sp_aload_n 102 rfl rfl rfl ?_
    refine sp_aload_n 103 rfl rfl rfl ?_
    refine hq_getI 106 rfl rfl rfl ?_
    refine sp_I (y := (I 65 49)) (by simp [mm_u]) ?_
    refine hq_putI 109 rfl rfl rfl ?_
    refine sp_aload_n 110 rfl rfl rfl ?_
    refine sp_iconst 111 rfl rfl ?_
    refine hq_putI 114 rfl rfl rfl ?_
    refine sp_aload_n 115 rfl rfl rfl ?_
    refine sp_iconst 116 rfl rfl ?_
    refine hq_putI 119 rfl rfl rfl ?_
    exact st_vret rfl rfl (Nat.le_refl _) (Nat.le_refl _) k
  · have k := k.2 q
    refine sp_aload_n 9 rfl rfl rfl ?_
    refine hq_getR 12 rfl rfl rfl rfl ?_
    refine sp_iload_n 13 rfl rfl rfl ?_
    refine sp_iload_n 14 rfl rfl rfl ?_
    refine sp_aload_n 15 rfl rfl rfl ?_
    refine hq_getI 18 rfl rfl rfl ?_
    refine sp_ic_ge 21 rfl rfl (fun q => ?_) (fun q => ?_)
    · have k := k.1 q
      refine sp_iconst 26 rfl rfl ?_
      have n3_ := k.1
      have k := k.2
      refine hq_zast 27 rfl rfl n3_ (by decide) rfl ?_
      refine sp_aload_n 28 rfl rfl rfl ?_
      refine hq_getR 31 rfl rfl rfl rfl ?_
      refine sp_iload_n 32 rfl rfl rfl ?_
      refine sp_iconst 33 rfl rfl ?_
      refine hq_iast 34 rfl rfl n3_ rfl ?_
      refine sp_aload_n 35 rfl rfl rfl ?_
      refine hq_getR 38 rfl rfl rfl rfl ?_
      refine sp_iload_n 39 rfl rfl rfl ?_
      refine sp_iconst 40 rfl rfl ?_
      refine hq_iast 41 rfl rfl n3_ rfl ?_
      refine sp_aload_n 42 rfl rfl rfl ?_
      refine hq_getR 45 rfl rfl rfl rfl ?_
      refine sp_iload_n 46 rfl rfl rfl ?_
      refine sp_iconst 47 rfl rfl ?_
      refine hq_iast 48 rfl rfl n3_ rfl ?_
      refine sp_iinc 51 rfl rfl rfl rfl ?_
      refine sp_goto rfl ?_
      exact k
    · have k := k.2 q
      refine sp_iconst 22 rfl rfl ?_
      refine sp_goto rfl ?_
      have n4_ := k.1
      have k := k.2
      refine hq_zast 27 rfl rfl n4_ (by decide) rfl ?_
      refine sp_aload_n 28 rfl rfl rfl ?_
      refine hq_getR 31 rfl rfl rfl rfl ?_
      refine sp_iload_n 32 rfl rfl rfl ?_
      refine sp_iconst 33 rfl rfl ?_
      refine hq_iast 34 rfl rfl n4_ rfl ?_
      refine sp_aload_n 35 rfl rfl rfl ?_
      refine hq_getR 38 rfl rfl rfl rfl ?_
      refine sp_iload_n 39 rfl rfl rfl ?_
      refine sp_iconst 40 rfl rfl ?_
      refine hq_iast 41 rfl rfl n4_ rfl ?_
      refine sp_aload_n 42 rfl rfl rfl ?_
      refine hq_getR 45 rfl rfl rfl rfl ?_
      refine sp_iload_n 46 rfl rfl rfl ?_
      refine sp_iconst 47 rfl rfl ?_
      refine hq_iast 48 rfl rfl n4_ rfl ?_
      refine sp_iinc 51 rfl rfl rfl rfl ?_
      refine sp_goto rfl ?_
      exact k
def w_X11_put_2 (SL : Nat) (xs : Nat → Int32) (d : Nat) (p s q : Nat) (Q : Option Value → mm_H → Prop) (v1 : Int32) (I : Nat → Nat → Int32) (J : Nat → Nat → Int64) : Prop := mm_w SL xs (mm_s SL xs (d + 0)) mm_am kX11_put 0 0 none Q 2 [some (.ref 65), some (.int v1)] [] (hp p s q I J) 0 0
theorem sg_X11_put {SL : Nat} {xs : Nat → Int32} {d : Nat} {p s q : Nat} {Q : Option Value → mm_H → Prop}  {I : Nat → Nat → Int32} {J : Nat → Nat → Int64}  (k : w_X11_put_2 SL xs d p s q Q (Int32.ofInt 0) I J) : mm_s SL xs (d + 1) 203 [.ref 65] (hp p s q I J) Q := by
  refine e_X11_put rfl ?_
  refine sp_iconst 1 rfl rfl ?_
  refine sp_istore_n 2 rfl rfl rfl ?_
  exact k
theorem sg_X11_put_2 {SL : Nat} {xs : Nat → Int32} {d : Nat} {p s q : Nat} {Q : Option Value → mm_H → Prop} {v1 : Int32} {I : Nat → Nat → Int32} {J : Nat → Nat → Int64}  (k : (((Int32.ofInt 60) ≤ v1 → (vp_in (Int32.ofInt 0) 2 ∧ (vp_in (Int32.ofInt 1) 2 ∧ (((I 65 64) = 0 ∨ (I 65 64) = 1) ∧ Q none (hp p s q (mm_u (mm_u (mm_u (mm_u (mm_u (mm_u (mm_u (mm_u I 65 70 (I 65 59)) 65 71 (I 65 60)) 65 72 (I 65 61)) 65 73 (I 65 62)) 95 (((Int32.ofInt 0)).toNatClampNeg) (I 90 (((Int32.ofInt 0)).toNatClampNeg))) 95 (((Int32.ofInt 1)).toNatClampNeg) (I 90 (((Int32.ofInt 1)).toNatClampNeg))) 65 75 (I 65 64)) 65 74 (I 65 63)) J))))) ∧ (¬ ((Int32.ofInt 60) ≤ v1) → (vp_in v1 60 ∧ (((I 91 ((v1).toNatClampNeg)) = 0 ∨ (I 91 ((v1).toNatClampNeg)) = 1) ∧ w_X11_put_2 SL xs d p s q Q (v1 + Int32.ofInt 1) (mm_u (mm_u (mm_u (mm_u I 96 ((v1).toNatClampNeg) (I 91 ((v1).toNatClampNeg))) 92 ((v1).toNatClampNeg) (I 87 ((v1).toNatClampNeg))) 93 ((v1).toNatClampNeg) (I 88 ((v1).toNatClampNeg))) 94 ((v1).toNatClampNeg) (I 89 ((v1).toNatClampNeg))) J))))) : w_X11_put_2 SL xs d p s q Q v1 I J := by
  unfold w_X11_put_2
  refine sp_iload_n 3 rfl rfl rfl ?_
  refine sp_bipush 5 rfl rfl ?_
  refine sp_I (y := Int32.ofInt 60) rfl ?_
  refine sp_ic_ge 8 rfl rfl (fun q => ?_) (fun q => ?_)
  · have k := k.1 q
    refine sp_aload_n 63 rfl rfl rfl ?_
    refine sp_aload_n 64 rfl rfl rfl ?_
    refine hq_getI 67 rfl rfl rfl ?_
    refine hq_putI 70 rfl rfl rfl ?_
    refine sp_aload_n 71 rfl rfl rfl ?_
    refine sp_aload_n 72 rfl rfl rfl ?_
    refine hq_getI 75 rfl rfl rfl ?_
    refine sp_I (y := (I 65 60)) (by simp [mm_u]) ?_
    refine hq_putI 78 rfl rfl rfl ?_
    refine sp_aload_n 79 rfl rfl rfl ?_
    refine sp_aload_n 80 rfl rfl rfl ?_
    refine hq_getI 83 rfl rfl rfl ?_
    refine sp_I (y := (I 65 61)) (by simp [mm_u]) ?_
    refine hq_putI 86 rfl rfl rfl ?_
    refine sp_aload_n 87 rfl rfl rfl ?_
    refine sp_aload_n 88 rfl rfl rfl ?_
    refine hq_getI 91 rfl rfl rfl ?_
    refine sp_I (y := (I 65 62)) (by simp [mm_u]) ?_
    refine hq_putI 94 rfl rfl rfl ?_
    refine sp_aload_n 95 rfl rfl rfl ?_
    refine hq_getR 98 rfl rfl rfl rfl ?_
    refine sp_iconst 99 rfl rfl ?_
    refine sp_aload_n 100 rfl rfl rfl ?_
    refine hq_getR 103 rfl rfl rfl rfl ?_
    refine sp_iconst 104 rfl rfl ?_
    have n1_ := k.1
    have k := k.2
    refine hq_iald 105 rfl rfl n1_ rfl ?_
    refine sp_I (y := (I 90 (((Int32.ofInt 0)).toNatClampNeg))) (by simp [mm_u]) ?_
    refine hq_iast 106 rfl rfl n1_ rfl ?_
    refine sp_aload_n 107 rfl rfl rfl ?_
    refine hq_getR 110 rfl rfl rfl rfl ?_
    refine sp_iconst 111 rfl rfl ?_
    refine sp_aload_n 112 rfl rfl rfl ?_
    refine hq_getR 115 rfl rfl rfl rfl ?_
    refine sp_iconst 116 rfl rfl ?_
    have n2_ := k.1
    have k := k.2
    refine hq_iald 117 rfl rfl n2_ rfl ?_
    refine sp_I (y := (I 90 (((Int32.ofInt 1)).toNatClampNeg))) (by simp [mm_u]) ?_
    refine hq_iast 118 rfl rfl n2_ rfl ?_
    refine sp_aload_n 119 rfl rfl rfl ?_
    refine sp_aload_n 120 rfl rfl rfl ?_
    refine hq_getI 123 rfl rfl rfl ?_
    refine sp_I (y := (I 65 64)) (by simp [mm_u]) ?_
    refine hq_putZ 126 rfl rfl k.1 rfl ?_
    have k := k.2
    refine sp_aload_n 127 rfl rfl rfl ?_
    refine sp_aload_n 128 rfl rfl rfl ?_
    refine hq_getI 131 rfl rfl rfl ?_
    refine sp_I (y := (I 65 63)) (by simp [mm_u]) ?_
    refine hq_putI 134 rfl rfl rfl ?_
    exact st_vret rfl rfl (Nat.le_refl _) (Nat.le_refl _) k
  · have k := k.2 q
    refine sp_aload_n 9 rfl rfl rfl ?_
    refine hq_getR 12 rfl rfl rfl rfl ?_
    refine sp_iload_n 13 rfl rfl rfl ?_
    refine sp_aload_n 14 rfl rfl rfl ?_
    refine hq_getR 17 rfl rfl rfl rfl ?_
    refine sp_iload_n 18 rfl rfl rfl ?_
    have n3_ := k.1
    have k := k.2
    refine hq_zald 19 rfl rfl n3_ rfl ?_
    refine hq_zast 20 rfl rfl n3_ k.1 rfl ?_
    have k := k.2
    refine sp_aload_n 21 rfl rfl rfl ?_
    refine hq_getR 24 rfl rfl rfl rfl ?_
    refine sp_iload_n 25 rfl rfl rfl ?_
    refine sp_aload_n 26 rfl rfl rfl ?_
    refine hq_getR 29 rfl rfl rfl rfl ?_
    refine sp_iload_n 30 rfl rfl rfl ?_
    refine hq_iald 31 rfl rfl n3_ rfl ?_
    refine sp_I (y := (I 87 ((v1).toNatClampNeg))) (by simp [mm_u]) ?_
    refine hq_iast 32 rfl rfl n3_ rfl ?_
    refine sp_aload_n 33 rfl rfl rfl ?_
    refine hq_getR 36 rfl rfl rfl rfl ?_
    refine sp_iload_n 37 rfl rfl rfl ?_
    refine sp_aload_n 38 rfl rfl rfl ?_
    refine hq_getR 41 rfl rfl rfl rfl ?_
    refine sp_iload_n 42 rfl rfl rfl ?_
    refine hq_iald 43 rfl rfl n3_ rfl ?_
    refine sp_I (y := (I 88 ((v1).toNatClampNeg))) (by simp [mm_u]) ?_
    refine hq_iast 44 rfl rfl n3_ rfl ?_
    refine sp_aload_n 45 rfl rfl rfl ?_
    refine hq_getR 48 rfl rfl rfl rfl ?_
    refine sp_iload_n 49 rfl rfl rfl ?_
    refine sp_aload_n 50 rfl rfl rfl ?_
    refine hq_getR 53 rfl rfl rfl rfl ?_
    refine sp_iload_n 54 rfl rfl rfl ?_
    refine hq_iald 55 rfl rfl n3_ rfl ?_
    refine sp_I (y := (I 89 ((v1).toNatClampNeg))) (by simp [mm_u]) ?_
    refine hq_iast 56 rfl rfl n3_ rfl ?_
    refine sp_iinc 59 rfl rfl rfl rfl ?_
    refine sp_goto rfl ?_
    exact k
def w_X11_bring_2 (SL : Nat) (xs : Nat → Int32) (d : Nat) (p s q : Nat) (Q : Option Value → mm_H → Prop) (v1 : Int32) (I : Nat → Nat → Int32) (J : Nat → Nat → Int64) : Prop := mm_w SL xs (mm_s SL xs (d + 0)) mm_am kX11_bring 0 0 none Q 2 [some (.ref 65), some (.int v1)] [] (hp p s q I J) 0 0
theorem sg_X11_bring {SL : Nat} {xs : Nat → Int32} {d : Nat} {p s q : Nat} {Q : Option Value → mm_H → Prop}  {I : Nat → Nat → Int32} {J : Nat → Nat → Int64}  (k : w_X11_bring_2 SL xs d p s q Q (Int32.ofInt 0) I J) : mm_s SL xs (d + 1) 204 [.ref 65] (hp p s q I J) Q := by
  refine e_X11_bring rfl ?_
  refine sp_iconst 1 rfl rfl ?_
  refine sp_istore_n 2 rfl rfl rfl ?_
  exact k
theorem sg_X11_bring_2 {SL : Nat} {xs : Nat → Int32} {d : Nat} {p s q : Nat} {Q : Option Value → mm_H → Prop} {v1 : Int32} {I : Nat → Nat → Int32} {J : Nat → Nat → Int64}  (k : (((Int32.ofInt 60) ≤ v1 → (vp_in (Int32.ofInt 0) 2 ∧ (vp_in (Int32.ofInt 1) 2 ∧ (((I 65 75) = 0 ∨ (I 65 75) = 1) ∧ Q none (hp p s q (mm_u (mm_u (mm_u (mm_u (mm_u (mm_u (mm_u (mm_u (mm_u (mm_u (mm_u I 65 59 (I 65 70)) 65 60 (I 65 71)) 65 61 (I 65 72)) 65 62 (I 65 73)) 90 (((Int32.ofInt 0)).toNatClampNeg) (I 95 (((Int32.ofInt 0)).toNatClampNeg))) 90 (((Int32.ofInt 1)).toNatClampNeg) (I 95 (((Int32.ofInt 1)).toNatClampNeg))) 65 64 (I 65 75)) 65 63 (I 65 74)) 65 78 (I 65 49)) 65 76 (Int32.ofInt 0)) 65 77 (Int32.ofInt 0)) J))))) ∧ (¬ ((Int32.ofInt 60) ≤ v1) → (vp_in v1 60 ∧ (((I 96 ((v1).toNatClampNeg)) = 0 ∨ (I 96 ((v1).toNatClampNeg)) = 1) ∧ w_X11_bring_2 SL xs d p s q Q (v1 + Int32.ofInt 1) (mm_u (mm_u (mm_u (mm_u I 91 ((v1).toNatClampNeg) (I 96 ((v1).toNatClampNeg))) 87 ((v1).toNatClampNeg) (I 92 ((v1).toNatClampNeg))) 88 ((v1).toNatClampNeg) (I 93 ((v1).toNatClampNeg))) 89 ((v1).toNatClampNeg) (I 94 ((v1).toNatClampNeg))) J))))) : w_X11_bring_2 SL xs d p s q Q v1 I J := by
  unfold w_X11_bring_2
  refine sp_iload_n 3 rfl rfl rfl ?_
  refine sp_bipush 5 rfl rfl ?_
  refine sp_I (y := Int32.ofInt 60) rfl ?_
  refine sp_ic_ge 8 rfl rfl (fun q => ?_) (fun q => ?_)
  · have k := k.1 q
    refine sp_aload_n 63 rfl rfl rfl ?_
    refine sp_aload_n 64 rfl rfl rfl ?_
    refine hq_getI 67 rfl rfl rfl ?_
    refine hq_putI 70 rfl rfl rfl ?_
    refine sp_aload_n 71 rfl rfl rfl ?_
    refine sp_aload_n 72 rfl rfl rfl ?_
    refine hq_getI 75 rfl rfl rfl ?_
    refine sp_I (y := (I 65 71)) (by simp [mm_u]) ?_
    refine hq_putI 78 rfl rfl rfl ?_
    refine sp_aload_n 79 rfl rfl rfl ?_
    refine sp_aload_n 80 rfl rfl rfl ?_
    refine hq_getI 83 rfl rfl rfl ?_
    refine sp_I (y := (I 65 72)) (by simp [mm_u]) ?_
    refine hq_putI 86 rfl rfl rfl ?_
    refine sp_aload_n 87 rfl rfl rfl ?_
    refine sp_aload_n 88 rfl rfl rfl ?_
    refine hq_getI 91 rfl rfl rfl ?_
    refine sp_I (y := (I 65 73)) (by simp [mm_u]) ?_
    refine hq_putI 94 rfl rfl rfl ?_
    refine sp_aload_n 95 rfl rfl rfl ?_
    refine hq_getR 98 rfl rfl rfl rfl ?_
    refine sp_iconst 99 rfl rfl ?_
    refine sp_aload_n 100 rfl rfl rfl ?_
    refine hq_getR 103 rfl rfl rfl rfl ?_
    refine sp_iconst 104 rfl rfl ?_
    have n1_ := k.1
    have k := k.2
    refine hq_iald 105 rfl rfl n1_ rfl ?_
    refine sp_I (y := (I 95 (((Int32.ofInt 0)).toNatClampNeg))) (by simp [mm_u]) ?_
    refine hq_iast 106 rfl rfl n1_ rfl ?_
    refine sp_aload_n 107 rfl rfl rfl ?_
    refine hq_getR 110 rfl rfl rfl rfl ?_
    refine sp_iconst 111 rfl rfl ?_
    refine sp_aload_n 112 rfl rfl rfl ?_
    refine hq_getR 115 rfl rfl rfl rfl ?_
    refine sp_iconst 116 rfl rfl ?_
    have n2_ := k.1
    have k := k.2
    refine hq_iald 117 rfl rfl n2_ rfl ?_
    refine sp_I (y := (I 95 (((Int32.ofInt 1)).toNatClampNeg))) (by simp [mm_u]) ?_
    refine hq_iast 118 rfl rfl n2_ rfl ?_
    refine sp_aload_n 119 rfl rfl rfl ?_
    refine sp_aload_n 120 rfl rfl rfl ?_
    refine hq_getI 123 rfl rfl rfl ?_
    refine sp_I (y := (I 65 75)) (by simp [mm_u]) ?_
    refine hq_putZ 126 rfl rfl k.1 rfl ?_
    have k := k.2
    refine sp_aload_n 127 rfl rfl rfl ?_
    refine sp_aload_n 128 rfl rfl rfl ?_
    refine hq_getI 131 rfl rfl rfl ?_
    refine sp_I (y := (I 65 74)) (by simp [mm_u]) ?_
    refine hq_putI 134 rfl rfl rfl ?_
    refine sp_aload_n 135 rfl rfl rfl ?_
    refine sp_aload_n 136 rfl rfl rfl ?_
    refine hq_getI 139 rfl rfl rfl ?_
    refine sp_I (y := (I 65 49)) (by simp [mm_u]) ?_
    refine hq_putI 142 rfl rfl rfl ?_
    refine sp_aload_n 143 rfl rfl rfl ?_
    refine sp_iconst 144 rfl rfl ?_
    refine hq_putI 147 rfl rfl rfl ?_
    refine sp_aload_n 148 rfl rfl rfl ?_
    refine sp_iconst 149 rfl rfl ?_
    refine hq_putI 152 rfl rfl rfl ?_
    exact st_vret rfl rfl (Nat.le_refl _) (Nat.le_refl _) k
  · have k := k.2 q
    refine sp_aload_n 9 rfl rfl rfl ?_
    refine hq_getR 12 rfl rfl rfl rfl ?_
    refine sp_iload_n 13 rfl rfl rfl ?_
    refine sp_aload_n 14 rfl rfl rfl ?_
    refine hq_getR 17 rfl rfl rfl rfl ?_
    refine sp_iload_n 18 rfl rfl rfl ?_
    have n3_ := k.1
    have k := k.2
    refine hq_zald 19 rfl rfl n3_ rfl ?_
    refine hq_zast 20 rfl rfl n3_ k.1 rfl ?_
    have k := k.2
    refine sp_aload_n 21 rfl rfl rfl ?_
    refine hq_getR 24 rfl rfl rfl rfl ?_
    refine sp_iload_n 25 rfl rfl rfl ?_
    refine sp_aload_n 26 rfl rfl rfl ?_
    refine hq_getR 29 rfl rfl rfl rfl ?_
    refine sp_iload_n 30 rfl rfl rfl ?_
    refine hq_iald 31 rfl rfl n3_ rfl ?_
    refine sp_I (y := (I 92 ((v1).toNatClampNeg))) (by simp [mm_u]) ?_
    refine hq_iast 32 rfl rfl n3_ rfl ?_
    refine sp_aload_n 33 rfl rfl rfl ?_
    refine hq_getR 36 rfl rfl rfl rfl ?_
    refine sp_iload_n 37 rfl rfl rfl ?_
    refine sp_aload_n 38 rfl rfl rfl ?_
    refine hq_getR 41 rfl rfl rfl rfl ?_
    refine sp_iload_n 42 rfl rfl rfl ?_
    refine hq_iald 43 rfl rfl n3_ rfl ?_
    refine sp_I (y := (I 93 ((v1).toNatClampNeg))) (by simp [mm_u]) ?_
    refine hq_iast 44 rfl rfl n3_ rfl ?_
    refine sp_aload_n 45 rfl rfl rfl ?_
    refine hq_getR 48 rfl rfl rfl rfl ?_
    refine sp_iload_n 49 rfl rfl rfl ?_
    refine sp_aload_n 50 rfl rfl rfl ?_
    refine hq_getR 53 rfl rfl rfl rfl ?_
    refine sp_iload_n 54 rfl rfl rfl ?_
    refine hq_iald 55 rfl rfl n3_ rfl ?_
    refine sp_I (y := (I 94 ((v1).toNatClampNeg))) (by simp [mm_u]) ?_
    refine hq_iast 56 rfl rfl n3_ rfl ?_
    refine sp_iinc 59 rfl rfl rfl rfl ?_
    refine sp_goto rfl ?_
    exact k
theorem sg_X11_worked {SL : Nat} {xs : Nat → Int32} {d : Nat} {p s q : Nat} {Q : Option Value → mm_H → Prop} {a0 : Int32} {a1 : Int32} {a2 : Int32} {I : Nat → Nat → Int32} {J : Nat → Nat → Int64}  (k : ((a0 = Int32.ofInt 20 → ((a1 = Int32.ofInt 0 → ((a2 = Int32.ofInt 0 → Q (some (.int (Int32.ofInt 0))) (hp p s q I J)) ∧ (¬ (a2 = Int32.ofInt 0) → Q (some (.int (Int32.ofInt 1))) (hp p s q I J)))) ∧ (¬ (a1 = Int32.ofInt 0) → Q (some (.int (Int32.ofInt 1))) (hp p s q I J)))) ∧ (a0 = Int32.ofInt 21 → ((a1 = Int32.ofInt 0 → Q (some (.int (Int32.ofInt 0))) (hp p s q I J)) ∧ (¬ (a1 = Int32.ofInt 0) → ((a2 = Int32.ofInt 0 → Q (some (.int (Int32.ofInt 0))) (hp p s q I J)) ∧ (¬ (a2 = Int32.ofInt 0) → Q (some (.int (Int32.ofInt 1))) (hp p s q I J)))))) ∧ (a0 = Int32.ofInt 23 → ((a1 = a2 → Q (some (.int (Int32.ofInt 1))) (hp p s q I J)) ∧ (¬ (a1 = a2) → Q (some (.int (Int32.ofInt 0))) (hp p s q I J)))) ∧ (a0 = Int32.ofInt 24 → ((a2 ≤ a1 → Q (some (.int (Int32.ofInt 0))) (hp p s q I J)) ∧ (¬ (a2 ≤ a1) → Q (some (.int (Int32.ofInt 1))) (hp p s q I J)))) ∧ (a0 = Int32.ofInt 25 → ((a1 ≤ a2 → Q (some (.int (Int32.ofInt 0))) (hp p s q I J)) ∧ (¬ (a1 ≤ a2) → Q (some (.int (Int32.ofInt 1))) (hp p s q I J)))) ∧ (a0 = Int32.ofInt 26 → Q (some (.int (a1 + a2))) (hp p s q I J)) ∧ (a0 = Int32.ofInt 27 → Q (some (.int (a1 - a2))) (hp p s q I J)) ∧ (a0 = Int32.ofInt 28 → Q (some (.int (a1 * a2))) (hp p s q I J)) ∧ (¬ a0 = Int32.ofInt 20 → ¬ a0 = Int32.ofInt 21 → ¬ a0 = Int32.ofInt 23 → ¬ a0 = Int32.ofInt 24 → ¬ a0 = Int32.ofInt 25 → ¬ a0 = Int32.ofInt 26 → ¬ a0 = Int32.ofInt 27 → ¬ a0 = Int32.ofInt 28 → ((a2 = Int32.ofInt 0 → Q (some (.int (Int32.ofInt 0))) (hp p s q I J)) ∧ (¬ (a2 = Int32.ofInt 0) → (¬ a2 = 0 ∧ Q (some (.int (a1 / a2))) (hp p s q I J))))))) : mm_s SL xs (d + 1) 205 [.int a0, .int a1, .int a2] (hp p s q I J) Q := by
  refine e_X11_worked rfl ?_
  refine sp_iload_n 1 rfl rfl rfl ?_
  by_cases q1_0 : a0 = Int32.ofInt 20
  · have k := k.1 q1_0
    refine sp_table (t := 52) rfl (by rw [q1_0]; rfl) ?_
    refine sp_iload_n 53 rfl rfl rfl ?_
    refine sp_if_ne 56 rfl rfl (fun q => ?_) (fun q => ?_)
    · have k := k.2 q
      refine sp_iconst 61 rfl rfl ?_
      refine sp_goto rfl ?_
      exact st_iret rfl rfl (Nat.le_refl _) (Nat.le_refl _) k
    · have k := k.1 q
      refine sp_iload_n 57 rfl rfl rfl ?_
      refine sp_if_eq 60 rfl rfl (fun q => ?_) (fun q => ?_)
      · have k := k.1 q
        refine sp_iconst 65 rfl rfl ?_
        exact st_iret rfl rfl (Nat.le_refl _) (Nat.le_refl _) k
      · have k := k.2 q
        refine sp_iconst 61 rfl rfl ?_
        refine sp_goto rfl ?_
        exact st_iret rfl rfl (Nat.le_refl _) (Nat.le_refl _) k
  · skip
    by_cases q1_1 : a0 = Int32.ofInt 21
    · have k := k.2.1 q1_1
      refine sp_table (t := 66) rfl (by rw [q1_1]; rfl) ?_
      refine sp_iload_n 67 rfl rfl rfl ?_
      refine sp_if_eq 70 rfl rfl (fun q => ?_) (fun q => ?_)
      · have k := k.1 q
        refine sp_iconst 79 rfl rfl ?_
        exact st_iret rfl rfl (Nat.le_refl _) (Nat.le_refl _) k
      · have k := k.2 q
        refine sp_iload_n 71 rfl rfl rfl ?_
        refine sp_if_eq 74 rfl rfl (fun q => ?_) (fun q => ?_)
        · have k := k.1 q
          refine sp_iconst 79 rfl rfl ?_
          exact st_iret rfl rfl (Nat.le_refl _) (Nat.le_refl _) k
        · have k := k.2 q
          refine sp_iconst 75 rfl rfl ?_
          refine sp_goto rfl ?_
          exact st_iret rfl rfl (Nat.le_refl _) (Nat.le_refl _) k
    · skip
      by_cases q1_2 : a0 = Int32.ofInt 23
      · have k := k.2.2.1 q1_2
        refine sp_table (t := 80) rfl (by rw [q1_2]; rfl) ?_
        refine sp_iload_n 81 rfl rfl rfl ?_
        refine sp_iload_n 82 rfl rfl rfl ?_
        refine sp_ic_ne 85 rfl rfl (fun q => ?_) (fun q => ?_)
        · have k := k.2 q
          refine sp_iconst 90 rfl rfl ?_
          exact st_iret rfl rfl (Nat.le_refl _) (Nat.le_refl _) k
        · have k := k.1 q
          refine sp_iconst 86 rfl rfl ?_
          refine sp_goto rfl ?_
          exact st_iret rfl rfl (Nat.le_refl _) (Nat.le_refl _) k
      · skip
        by_cases q1_3 : a0 = Int32.ofInt 24
        · have k := k.2.2.2.1 q1_3
          refine sp_table (t := 91) rfl (by rw [q1_3]; rfl) ?_
          refine sp_iload_n 92 rfl rfl rfl ?_
          refine sp_iload_n 93 rfl rfl rfl ?_
          refine sp_ic_ge 96 rfl rfl (fun q => ?_) (fun q => ?_)
          · have k := k.1 q
            refine sp_iconst 101 rfl rfl ?_
            exact st_iret rfl rfl (Nat.le_refl _) (Nat.le_refl _) k
          · have k := k.2 q
            refine sp_iconst 97 rfl rfl ?_
            refine sp_goto rfl ?_
            exact st_iret rfl rfl (Nat.le_refl _) (Nat.le_refl _) k
        · skip
          by_cases q1_4 : a0 = Int32.ofInt 25
          · have k := k.2.2.2.2.1 q1_4
            refine sp_table (t := 102) rfl (by rw [q1_4]; rfl) ?_
            refine sp_iload_n 103 rfl rfl rfl ?_
            refine sp_iload_n 104 rfl rfl rfl ?_
            refine sp_ic_le 107 rfl rfl (fun q => ?_) (fun q => ?_)
            · have k := k.1 q
              refine sp_iconst 112 rfl rfl ?_
              exact st_iret rfl rfl (Nat.le_refl _) (Nat.le_refl _) k
            · have k := k.2 q
              refine sp_iconst 108 rfl rfl ?_
              refine sp_goto rfl ?_
              exact st_iret rfl rfl (Nat.le_refl _) (Nat.le_refl _) k
          · skip
            by_cases q1_5 : a0 = Int32.ofInt 26
            · have k := k.2.2.2.2.2.1 q1_5
              refine sp_table (t := 113) rfl (by rw [q1_5]; rfl) ?_
              refine sp_iload_n 114 rfl rfl rfl ?_
              refine sp_iload_n 115 rfl rfl rfl ?_
              refine sp_iadd 116 rfl rfl ?_
              exact st_iret rfl rfl (Nat.le_refl _) (Nat.le_refl _) k
            · skip
              by_cases q1_6 : a0 = Int32.ofInt 27
              · have k := k.2.2.2.2.2.2.1 q1_6
                refine sp_table (t := 117) rfl (by rw [q1_6]; rfl) ?_
                refine sp_iload_n 118 rfl rfl rfl ?_
                refine sp_iload_n 119 rfl rfl rfl ?_
                refine sp_isub 120 rfl rfl ?_
                exact st_iret rfl rfl (Nat.le_refl _) (Nat.le_refl _) k
              · skip
                by_cases q1_7 : a0 = Int32.ofInt 28
                · have k := k.2.2.2.2.2.2.2.1 q1_7
                  refine sp_table (t := 121) rfl (by rw [q1_7]; rfl) ?_
                  refine sp_iload_n 122 rfl rfl rfl ?_
                  refine sp_iload_n 123 rfl rfl rfl ?_
                  refine sp_imul 124 rfl rfl ?_
                  exact st_iret rfl rfl (Nat.le_refl _) (Nat.le_refl _) k
                · skip
                  have k := k.2.2.2.2.2.2.2.2 q1_0 q1_1 q1_2 q1_3 q1_4 q1_5 q1_6 q1_7
                  refine sp_table (t := 125) rfl ?_ ?_
                  · unfold mm_tab
                    rcases Classical.em (a0.toInt < 20 ∨ 28 < a0.toInt) with z | z
                    · rw [if_pos z]; rfl
                    · rw [if_neg z]
                      have : a0.toInt = 22 := by
                        have := tb_ne q1_0; have := tb_ne q1_1; have := tb_ne q1_2; have := tb_ne q1_3; have := tb_ne q1_4; have := tb_ne q1_5; have := tb_ne q1_6; have := tb_ne q1_7
                        omega
                      rcases this with e_ <;> (rw [e_]; rfl)
                  · skip
                    refine sp_iload_n 126 rfl rfl rfl ?_
                    refine sp_if_ne 129 rfl rfl (fun q => ?_) (fun q => ?_)
                    · have k := k.2 q
                      refine sp_iload_n 134 rfl rfl rfl ?_
                      refine sp_iload_n 135 rfl rfl rfl ?_
                      have n1_ := k.1
                      have k := k.2
                      refine sp_idiv 136 rfl n1_ rfl ?_
                      exact st_iret rfl rfl (Nat.le_refl _) (Nat.le_refl _) k
                    · have k := k.1 q
                      refine sp_iconst 130 rfl rfl ?_
                      refine sp_goto rfl ?_
                      exact st_iret rfl rfl (Nat.le_refl _) (Nat.le_refl _) k
def w_X11_isGuarded_4 (SL : Nat) (xs : Nat → Int32) (d : Nat) (p s q : Nat) (Q : Option Value → mm_H → Prop) (v1 : Int32) (v2 : Int32) (v3 : Int32) (I : Nat → Nat → Int32) (J : Nat → Nat → Int64) : Prop := mm_w SL xs (mm_s SL xs (d + 0)) mm_am kX11_isGuarded 0 0 (some .boolean) Q 4 [some (.ref 65), some (.int v1), some (.int v2), some (.int v3)] [] (hp p s q I J) 0 0
theorem sg_X11_isGuarded {SL : Nat} {xs : Nat → Int32} {d : Nat} {p s q : Nat} {Q : Option Value → mm_H → Prop} {a0 : Int32} {I : Nat → Nat → Int32} {J : Nat → Nat → Int64}  (k : w_X11_isGuarded_4 SL xs d p s q Q a0 (Int32.ofInt 0) (Int32.ofInt 0) I J) : mm_s SL xs (d + 1) 207 [.ref 65, .int a0] (hp p s q I J) Q := by
  refine e_X11_isGuarded rfl ?_
  refine sp_iconst 1 rfl rfl ?_
  refine sp_istore_n 2 rfl rfl rfl ?_
  refine sp_iconst 3 rfl rfl ?_
  refine sp_istore_n 4 rfl rfl rfl ?_
  exact k
theorem sg_X11_isGuarded_4 {SL : Nat} {xs : Nat → Int32} {d : Nat} {p s q : Nat} {Q : Option Value → mm_H → Prop} {v1 : Int32} {v2 : Int32} {v3 : Int32} {I : Nat → Nat → Int32} {J : Nat → Nat → Int64}  (k : (((I 65 42) ≤ v3 → ((v2 = 0 ∨ v2 = 1) ∧ Q (some (.int v2)) (hp p s q I J))) ∧ (¬ ((I 65 42) ≤ v3) → ((v2 = Int32.ofInt 0 → (vp_in v3 8 ∧ ((v1 < (I 80 ((v3).toNatClampNeg)) → w_X11_isGuarded_4 SL xs d p s q Q v1 (Int32.ofInt 0) (v3 + Int32.ofInt 1) I J) ∧ (¬ (v1 < (I 80 ((v3).toNatClampNeg))) → (((I 81 ((v3).toNatClampNeg)) < v1 → w_X11_isGuarded_4 SL xs d p s q Q v1 (Int32.ofInt 0) (v3 + Int32.ofInt 1) I J) ∧ (¬ ((I 81 ((v3).toNatClampNeg)) < v1) → w_X11_isGuarded_4 SL xs d p s q Q v1 (Int32.ofInt 1) (v3 + Int32.ofInt 1) I J)))))) ∧ (¬ (v2 = Int32.ofInt 0) → w_X11_isGuarded_4 SL xs d p s q Q v1 (Int32.ofInt 1) (v3 + Int32.ofInt 1) I J))))) : w_X11_isGuarded_4 SL xs d p s q Q v1 v2 v3 I J := by
  unfold w_X11_isGuarded_4
  refine sp_iload_n 5 rfl rfl rfl ?_
  refine sp_aload_n 6 rfl rfl rfl ?_
  refine hq_getI 9 rfl rfl rfl ?_
  refine sp_ic_ge 12 rfl rfl (fun q => ?_) (fun q => ?_)
  · have k := k.1 q
    refine sp_iload_n 49 rfl rfl rfl ?_
    exact st_zret rfl rfl k.1 (Nat.le_refl _) (Nat.le_refl _) k.2
  · have k := k.2 q
    refine sp_iload_n 13 rfl rfl rfl ?_
    refine sp_if_ne 16 rfl rfl (fun q => ?_) (fun q => ?_)
    · have k := k.2 q
      refine sp_iconst 37 rfl rfl ?_
      refine sp_goto rfl ?_
      refine sp_istore_n 42 rfl rfl rfl ?_
      refine sp_iinc 45 rfl rfl rfl rfl ?_
      refine sp_goto rfl ?_
      exact k
    · have k := k.1 q
      refine sp_iload_n 17 rfl rfl rfl ?_
      refine sp_aload_n 18 rfl rfl rfl ?_
      refine hq_getR 21 rfl rfl rfl rfl ?_
      refine sp_iload_n 22 rfl rfl rfl ?_
      have n1_ := k.1
      have k := k.2
      refine hq_iald 23 rfl rfl n1_ rfl ?_
      refine sp_ic_lt 26 rfl rfl (fun q => ?_) (fun q => ?_)
      · have k := k.1 q
        refine sp_iconst 41 rfl rfl ?_
        refine sp_istore_n 42 rfl rfl rfl ?_
        refine sp_iinc 45 rfl rfl rfl rfl ?_
        refine sp_goto rfl ?_
        exact k
      · have k := k.2 q
        refine sp_iload_n 27 rfl rfl rfl ?_
        refine sp_aload_n 28 rfl rfl rfl ?_
        refine hq_getR 31 rfl rfl rfl rfl ?_
        refine sp_iload_n 32 rfl rfl rfl ?_
        refine hq_iald 33 rfl rfl n1_ rfl ?_
        refine sp_ic_gt 36 rfl rfl (fun q => ?_) (fun q => ?_)
        · have k := k.1 q
          refine sp_iconst 41 rfl rfl ?_
          refine sp_istore_n 42 rfl rfl rfl ?_
          refine sp_iinc 45 rfl rfl rfl rfl ?_
          refine sp_goto rfl ?_
          exact k
        · have k := k.2 q
          refine sp_iconst 37 rfl rfl ?_
          refine sp_goto rfl ?_
          refine sp_istore_n 42 rfl rfl rfl ?_
          refine sp_iinc 45 rfl rfl rfl rfl ?_
          refine sp_goto rfl ?_
          exact k
theorem sg_X11_leaves {SL : Nat} {xs : Nat → Int32} {d : Nat} {p s q : Nat} {Q : Option Value → mm_H → Prop} {a0 : Int32} {a1 : Int32} {I : Nat → Nat → Int32} {J : Nat → Nat → Int64}  (k : (vp_in a0 60 ∧ (vp_in (I 65 61) 60 ∧ Q none (hp p s q (mm_u (mm_u (mm_u (mm_u (mm_u I 91 ((a0).toNatClampNeg) (Int32.ofInt 0)) 65 59 ((I 65 59) - (Int32.ofInt 1))) 88 ((a0).toNatClampNeg) a1) 89 (((I 65 61)).toNatClampNeg) a0) 65 61 ((I 65 61) + (Int32.ofInt 1))) J)))) : mm_s SL xs (d + 1) 210 [.ref 65, .int a0, .int a1] (hp p s q I J) Q := by
  refine e_X11_leaves rfl ?_
  refine sp_aload_n 1 rfl rfl rfl ?_
  refine hq_getR 4 rfl rfl rfl rfl ?_
  refine sp_iload_n 5 rfl rfl rfl ?_
  refine sp_iconst 6 rfl rfl ?_
  have n1_ := k.1
  have k := k.2
  refine hq_zast 7 rfl rfl n1_ (by decide) rfl ?_
  refine sp_aload_n 8 rfl rfl rfl ?_
  refine sp_dup 9 rfl rfl rfl ?_
  refine hq_getI 12 rfl rfl rfl ?_
  refine sp_I (y := (I 65 59)) (by simp [mm_u]) ?_
  refine sp_iconst 13 rfl rfl ?_
  refine sp_isub 14 rfl rfl ?_
  refine hq_putI 17 rfl rfl rfl ?_
  refine sp_aload_n 18 rfl rfl rfl ?_
  refine hq_getR 21 rfl rfl rfl rfl ?_
  refine sp_iload_n 22 rfl rfl rfl ?_
  refine sp_iload_n 23 rfl rfl rfl ?_
  refine hq_iast 24 rfl rfl n1_ rfl ?_
  refine sp_aload_n 25 rfl rfl rfl ?_
  refine hq_getR 28 rfl rfl rfl rfl ?_
  refine sp_aload_n 29 rfl rfl rfl ?_
  refine hq_getI 32 rfl rfl rfl ?_
  refine sp_I (y := (I 65 61)) (by simp [mm_u]) ?_
  refine sp_iload_n 33 rfl rfl rfl ?_
  have n2_ := k.1
  have k := k.2
  refine hq_iast 34 rfl rfl n2_ rfl ?_
  refine sp_aload_n 35 rfl rfl rfl ?_
  refine sp_dup 36 rfl rfl rfl ?_
  refine hq_getI 39 rfl rfl rfl ?_
  refine sp_I (y := (I 65 61)) (by simp [mm_u]) ?_
  refine sp_iconst 40 rfl rfl ?_
  refine sp_iadd 41 rfl rfl ?_
  refine hq_putI 44 rfl rfl rfl ?_
  exact st_vret rfl rfl (Nat.le_refl _) (Nat.le_refl _) k
def w_X11_standSet_4 (SL : Nat) (xs : Nat → Int32) (d : Nat) (p s q : Nat) (Q : Option Value → mm_H → Prop) (v1 : Int64) (v3 : Int32) (I : Nat → Nat → Int32) (J : Nat → Nat → Int64) : Prop := mm_w SL xs (mm_s SL xs (d + 0)) mm_am kX11_standSet 0 0 (some .long) Q 4 [some (.ref 65), some (.long v1), none, some (.int v3)] [] (hp p s q I J) 0 0
theorem sg_X11_standSet {SL : Nat} {xs : Nat → Int32} {d : Nat} {p s q : Nat} {Q : Option Value → mm_H → Prop}  {I : Nat → Nat → Int32} {J : Nat → Nat → Int64}  (k : w_X11_standSet_4 SL xs d p s q Q (Int64.ofInt 0) (Int32.ofInt 0) I J) : mm_s SL xs (d + 1) 212 [.ref 65] (hp p s q I J) Q := by
  refine e_X11_standSet rfl ?_
  refine sp_lconst 1 rfl rfl ?_
  refine sp_J (y := Int64.ofInt 0) rfl ?_
  refine sp_lstore_n 2 rfl rfl rfl ?_
  refine sp_iconst 3 rfl rfl ?_
  refine sp_istore_n 4 rfl rfl rfl ?_
  exact k
theorem sg_X11_standSet_4 {SL : Nat} {xs : Nat → Int32} {d : Nat} {p s q : Nat} {Q : Option Value → mm_H → Prop} {v1 : Int64} {v3 : Int32} {I : Nat → Nat → Int32} {J : Nat → Nat → Int64}  (k : (((I 65 47) ≤ v3 → Q (some (.long v1)) (hp p s q I J)) ∧ (¬ ((I 65 47) ≤ v3) → (vp_in v3 60 ∧ (((I 91 ((v3).toNatClampNeg)) = Int32.ofInt 0 → w_X11_standSet_4 SL xs d p s q Q (v1 ||| (Int64.ofInt 0)) (v3 + Int32.ofInt 1) I J) ∧ (¬ ((I 91 ((v3).toNatClampNeg)) = Int32.ofInt 0) → w_X11_standSet_4 SL xs d p s q Q (v1 ||| ((Int64.ofInt 1) <<< ((v3).toInt64 &&& 63))) (v3 + Int32.ofInt 1) I J)))))) : w_X11_standSet_4 SL xs d p s q Q v1 v3 I J := by
  unfold w_X11_standSet_4
  refine sp_iload_n 5 rfl rfl rfl ?_
  refine sp_aload_n 6 rfl rfl rfl ?_
  refine hq_getI 9 rfl rfl rfl ?_
  refine sp_ic_ge 12 rfl rfl (fun q => ?_) (fun q => ?_)
  · have k := k.1 q
    refine sp_lload_n 38 rfl rfl rfl ?_
    exact st_lret rfl rfl (Nat.le_refl _) (Nat.le_refl _) k
  · have k := k.2 q
    refine sp_lload_n 13 rfl rfl rfl ?_
    refine sp_aload_n 14 rfl rfl rfl ?_
    refine hq_getR 17 rfl rfl rfl rfl ?_
    refine sp_iload_n 18 rfl rfl rfl ?_
    have n1_ := k.1
    have k := k.2
    refine hq_zald 19 rfl rfl n1_ rfl ?_
    refine sp_if_eq 22 rfl rfl (fun q => ?_) (fun q => ?_)
    · have k := k.1 q
      refine sp_lconst 29 rfl rfl ?_
      refine sp_J (y := Int64.ofInt 0) rfl ?_
      refine sp_lor 30 rfl rfl ?_
      refine sp_lstore_n 31 rfl rfl rfl ?_
      refine sp_iinc 34 rfl rfl rfl rfl ?_
      refine sp_goto rfl ?_
      exact k
    · have k := k.2 q
      refine sp_lconst 23 rfl rfl ?_
      refine sp_J (y := Int64.ofInt 1) rfl ?_
      refine sp_iload_n 24 rfl rfl rfl ?_
      refine sp_lshl 25 rfl rfl ?_
      refine sp_goto rfl ?_
      refine sp_lor 30 rfl rfl ?_
      refine sp_lstore_n 31 rfl rfl rfl ?_
      refine sp_iinc 34 rfl rfl rfl rfl ?_
      refine sp_goto rfl ?_
      exact k
theorem sg_X11_went {SL : Nat} {xs : Nat → Int32} {d : Nat} {p s q : Nat} {Q : Option Value → mm_H → Prop} {a0 : Int32} {I : Nat → Nat → Int32} {J : Nat → Nat → Int64}  (k : ((a0 < Int32.ofInt 0 → Q (some (.int (Int32.ofInt (-1)))) (hp p s q I J)) ∧ (¬ (a0 < Int32.ofInt 0) → (((I 65 61) ≤ a0 → Q (some (.int (Int32.ofInt (-1)))) (hp p s q I J)) ∧ (¬ ((I 65 61) ≤ a0) → (vp_in a0 60 ∧ Q (some (.int (I 89 ((a0).toNatClampNeg)))) (hp p s q I J))))))) : mm_s SL xs (d + 1) 215 [.ref 65, .int a0] (hp p s q I J) Q := by
  refine e_X11_went rfl ?_
  refine sp_iload_n 1 rfl rfl rfl ?_
  refine sp_if_lt 4 rfl rfl (fun q => ?_) (fun q => ?_)
  · have k := k.1 q
    refine sp_iconst 22 rfl rfl ?_
    exact st_iret rfl rfl (Nat.le_refl _) (Nat.le_refl _) k
  · have k := k.2 q
    refine sp_iload_n 5 rfl rfl rfl ?_
    refine sp_aload_n 6 rfl rfl rfl ?_
    refine hq_getI 9 rfl rfl rfl ?_
    refine sp_ic_ge 12 rfl rfl (fun q => ?_) (fun q => ?_)
    · have k := k.1 q
      refine sp_iconst 22 rfl rfl ?_
      exact st_iret rfl rfl (Nat.le_refl _) (Nat.le_refl _) k
    · have k := k.2 q
      refine sp_aload_n 13 rfl rfl rfl ?_
      refine hq_getR 16 rfl rfl rfl rfl ?_
      refine sp_iload_n 17 rfl rfl rfl ?_
      have n1_ := k.1
      have k := k.2
      refine hq_iald 18 rfl rfl n1_ rfl ?_
      refine sp_goto rfl ?_
      exact st_iret rfl rfl (Nat.le_refl _) (Nat.le_refl _) k
theorem sg_X11_areNear {SL : Nat} {xs : Nat → Int32} {d : Nat} {p s q : Nat} {Q : Option Value → mm_H → Prop}  {I : Nat → Nat → Int32} {J : Nat → Nat → Int64}  (k : (vp_in (Int32.ofInt 0) 2 ∧ (((I 90 (((Int32.ofInt 0)).toNatClampNeg)) < Int32.ofInt 0 → Q (some (.int (Int32.ofInt 0))) (hp p s q I J)) ∧ (¬ ((I 90 (((Int32.ofInt 0)).toNatClampNeg)) < Int32.ofInt 0) → (vp_in (Int32.ofInt 1) 2 ∧ ((Int32.ofInt 0 ≤ (I 90 (((Int32.ofInt 1)).toNatClampNeg)) → (((I 90 (((Int32.ofInt 0)).toNatClampNeg)) ≤ (I 90 (((Int32.ofInt 1)).toNatClampNeg)) → ((((I 90 (((Int32.ofInt 1)).toNatClampNeg)) - (I 90 (((Int32.ofInt 0)).toNatClampNeg))) ≤ (Int32.ofInt 1) → Q (some (.int (Int32.ofInt 1))) (hp p s q I J)) ∧ (¬ (((I 90 (((Int32.ofInt 1)).toNatClampNeg)) - (I 90 (((Int32.ofInt 0)).toNatClampNeg))) ≤ (Int32.ofInt 1)) → ((((I 90 (((Int32.ofInt 1)).toNatClampNeg)) - (I 90 (((Int32.ofInt 0)).toNatClampNeg))) = ((I 65 47) - (Int32.ofInt 1)) → Q (some (.int (Int32.ofInt 1))) (hp p s q I J)) ∧ (¬ (((I 90 (((Int32.ofInt 1)).toNatClampNeg)) - (I 90 (((Int32.ofInt 0)).toNatClampNeg))) = ((I 65 47) - (Int32.ofInt 1))) → Q (some (.int (Int32.ofInt 0))) (hp p s q I J)))))) ∧ (¬ ((I 90 (((Int32.ofInt 0)).toNatClampNeg)) ≤ (I 90 (((Int32.ofInt 1)).toNatClampNeg))) → ((((I 90 (((Int32.ofInt 0)).toNatClampNeg)) - (I 90 (((Int32.ofInt 1)).toNatClampNeg))) ≤ (Int32.ofInt 1) → Q (some (.int (Int32.ofInt 1))) (hp p s q I J)) ∧ (¬ (((I 90 (((Int32.ofInt 0)).toNatClampNeg)) - (I 90 (((Int32.ofInt 1)).toNatClampNeg))) ≤ (Int32.ofInt 1)) → ((((I 90 (((Int32.ofInt 0)).toNatClampNeg)) - (I 90 (((Int32.ofInt 1)).toNatClampNeg))) = ((I 65 47) - (Int32.ofInt 1)) → Q (some (.int (Int32.ofInt 1))) (hp p s q I J)) ∧ (¬ (((I 90 (((Int32.ofInt 0)).toNatClampNeg)) - (I 90 (((Int32.ofInt 1)).toNatClampNeg))) = ((I 65 47) - (Int32.ofInt 1))) → Q (some (.int (Int32.ofInt 0))) (hp p s q I J)))))))) ∧ (¬ (Int32.ofInt 0 ≤ (I 90 (((Int32.ofInt 1)).toNatClampNeg))) → Q (some (.int (Int32.ofInt 0))) (hp p s q I J)))))))) : mm_s SL xs (d + 1) 225 [.ref 65] (hp p s q I J) Q := by
  refine e_X11_areNear rfl ?_
  refine sp_aload_n 1 rfl rfl rfl ?_
  refine hq_getR 4 rfl rfl rfl rfl ?_
  refine sp_iconst 5 rfl rfl ?_
  have n1_ := k.1
  have k := k.2
  refine hq_iald 6 rfl rfl n1_ rfl ?_
  refine sp_if_lt 9 rfl rfl (fun q => ?_) (fun q => ?_)
  · have k := k.1 q
    refine sp_iconst 19 rfl rfl ?_
    exact st_zret rfl rfl (by decide) (Nat.le_refl _) (Nat.le_refl _) k
  · have k := k.2 q
    refine sp_aload_n 10 rfl rfl rfl ?_
    refine hq_getR 13 rfl rfl rfl rfl ?_
    refine sp_iconst 14 rfl rfl ?_
    have n2_ := k.1
    have k := k.2
    refine hq_iald 15 rfl rfl n2_ rfl ?_
    refine sp_if_ge 18 rfl rfl (fun q => ?_) (fun q => ?_)
    · have k := k.1 q
      refine sp_aload_n 21 rfl rfl rfl ?_
      refine hq_getR 24 rfl rfl rfl rfl ?_
      refine sp_iconst 25 rfl rfl ?_
      refine hq_iald 26 rfl rfl n1_ rfl ?_
      refine sp_aload_n 27 rfl rfl rfl ?_
      refine hq_getR 30 rfl rfl rfl rfl ?_
      refine sp_iconst 31 rfl rfl ?_
      refine hq_iald 32 rfl rfl n2_ rfl ?_
      refine sp_ic_le 35 rfl rfl (fun q => ?_) (fun q => ?_)
      · have k := k.1 q
        refine sp_aload_n 52 rfl rfl rfl ?_
        refine hq_getR 55 rfl rfl rfl rfl ?_
        refine sp_iconst 56 rfl rfl ?_
        refine hq_iald 57 rfl rfl n2_ rfl ?_
        refine sp_aload_n 58 rfl rfl rfl ?_
        refine hq_getR 61 rfl rfl rfl rfl ?_
        refine sp_iconst 62 rfl rfl ?_
        refine hq_iald 63 rfl rfl n1_ rfl ?_
        refine sp_isub 64 rfl rfl ?_
        refine sp_istore_n 65 rfl rfl rfl ?_
        refine sp_iload_n 66 rfl rfl rfl ?_
        refine sp_iconst 67 rfl rfl ?_
        refine sp_ic_le 70 rfl rfl (fun q => ?_) (fun q => ?_)
        · have k := k.1 q
          refine sp_iconst 81 rfl rfl ?_
          refine sp_goto rfl ?_
          exact st_zret rfl rfl (by decide) (Nat.le_refl _) (Nat.le_refl _) k
        · have k := k.2 q
          refine sp_iload_n 71 rfl rfl rfl ?_
          refine sp_aload_n 72 rfl rfl rfl ?_
          refine hq_getI 75 rfl rfl rfl ?_
          refine sp_iconst 76 rfl rfl ?_
          refine sp_isub 77 rfl rfl ?_
          refine sp_ic_ne 80 rfl rfl (fun q => ?_) (fun q => ?_)
          · have k := k.2 q
            refine sp_iconst 85 rfl rfl ?_
            exact st_zret rfl rfl (by decide) (Nat.le_refl _) (Nat.le_refl _) k
          · have k := k.1 q
            refine sp_iconst 81 rfl rfl ?_
            refine sp_goto rfl ?_
            exact st_zret rfl rfl (by decide) (Nat.le_refl _) (Nat.le_refl _) k
      · have k := k.2 q
        refine sp_aload_n 36 rfl rfl rfl ?_
        refine hq_getR 39 rfl rfl rfl rfl ?_
        refine sp_iconst 40 rfl rfl ?_
        refine hq_iald 41 rfl rfl n1_ rfl ?_
        refine sp_aload_n 42 rfl rfl rfl ?_
        refine hq_getR 45 rfl rfl rfl rfl ?_
        refine sp_iconst 46 rfl rfl ?_
        refine hq_iald 47 rfl rfl n2_ rfl ?_
        refine sp_isub 48 rfl rfl ?_
        refine sp_goto rfl ?_
        refine sp_istore_n 65 rfl rfl rfl ?_
        refine sp_iload_n 66 rfl rfl rfl ?_
        refine sp_iconst 67 rfl rfl ?_
        refine sp_ic_le 70 rfl rfl (fun q => ?_) (fun q => ?_)
        · have k := k.1 q
          refine sp_iconst 81 rfl rfl ?_
          refine sp_goto rfl ?_
          exact st_zret rfl rfl (by decide) (Nat.le_refl _) (Nat.le_refl _) k
        · have k := k.2 q
          refine sp_iload_n 71 rfl rfl rfl ?_
          refine sp_aload_n 72 rfl rfl rfl ?_
          refine hq_getI 75 rfl rfl rfl ?_
          refine sp_iconst 76 rfl rfl ?_
          refine sp_isub 77 rfl rfl ?_
          refine sp_ic_ne 80 rfl rfl (fun q => ?_) (fun q => ?_)
          · have k := k.2 q
            refine sp_iconst 85 rfl rfl ?_
            exact st_zret rfl rfl (by decide) (Nat.le_refl _) (Nat.le_refl _) k
          · have k := k.1 q
            refine sp_iconst 81 rfl rfl ?_
            refine sp_goto rfl ?_
            exact st_zret rfl rfl (by decide) (Nat.le_refl _) (Nat.le_refl _) k
    · have k := k.2 q
      refine sp_iconst 19 rfl rfl ?_
      exact st_zret rfl rfl (by decide) (Nat.le_refl _) (Nat.le_refl _) k
theorem sg_X11_order {SL : Nat} {xs : Nat → Int32} {d : Nat} {p s q : Nat} {Q : Option Value → mm_H → Prop} {a0 : Int32} {I : Nat → Nat → Int32} {J : Nat → Nat → Int64}  (k : ((a0 < Int32.ofInt 0 → Q (some (.int (Int32.ofInt (-1)))) (hp p s q I J)) ∧ (¬ (a0 < Int32.ofInt 0) → (((Int32.ofInt 59) < a0 → Q (some (.int (Int32.ofInt (-1)))) (hp p s q I J)) ∧ (¬ ((Int32.ofInt 59) < a0) → (((I 65 80) = (Int32.ofInt 60) → Q (some (.int (Int32.ofInt (-1)))) (hp p s q I J)) ∧ (¬ ((I 65 80) = (Int32.ofInt 60)) → (vp_in (I 65 80) 60 ∧ Q (some (.int ((I 65 80) + (Int32.ofInt 1)))) (hp p s q (mm_u (mm_u I 97 (((I 65 80)).toNatClampNeg) a0) 65 80 ((I 65 80) + (Int32.ofInt 1))) J))))))))) : mm_s SL xs (d + 1) 230 [.ref 65, .int a0] (hp p s q I J) Q := by
  refine e_X11_order rfl ?_
  refine sp_iload_n 1 rfl rfl rfl ?_
  refine sp_if_lt 4 rfl rfl (fun q => ?_) (fun q => ?_)
  · have k := k.1 q
    refine sp_iconst 20 rfl rfl ?_
    exact st_iret rfl rfl (Nat.le_refl _) (Nat.le_refl _) k
  · have k := k.2 q
    refine sp_iload_n 5 rfl rfl rfl ?_
    refine sp_bipush 7 rfl rfl ?_
    refine sp_I (y := Int32.ofInt 59) rfl ?_
    refine sp_ic_gt 10 rfl rfl (fun q => ?_) (fun q => ?_)
    · have k := k.1 q
      refine sp_iconst 20 rfl rfl ?_
      exact st_iret rfl rfl (Nat.le_refl _) (Nat.le_refl _) k
    · have k := k.2 q
      refine sp_aload_n 11 rfl rfl rfl ?_
      refine hq_getI 14 rfl rfl rfl ?_
      refine sp_bipush 16 rfl rfl ?_
      refine sp_I (y := Int32.ofInt 60) rfl ?_
      refine sp_ic_ne 19 rfl rfl (fun q => ?_) (fun q => ?_)
      · have k := k.2 q
        refine sp_aload_n 22 rfl rfl rfl ?_
        refine hq_getR 25 rfl rfl rfl rfl ?_
        refine sp_aload_n 26 rfl rfl rfl ?_
        refine hq_getI 29 rfl rfl rfl ?_
        refine sp_iload_n 30 rfl rfl rfl ?_
        have n1_ := k.1
        have k := k.2
        refine hq_iast 31 rfl rfl n1_ rfl ?_
        refine sp_aload_n 32 rfl rfl rfl ?_
        refine sp_dup 33 rfl rfl rfl ?_
        refine hq_getI 36 rfl rfl rfl ?_
        refine sp_I (y := (I 65 80)) (by simp [mm_u]) ?_
        refine sp_iconst 37 rfl rfl ?_
        refine sp_iadd 38 rfl rfl ?_
        refine hq_putI 41 rfl rfl rfl ?_
        refine sp_aload_n 42 rfl rfl rfl ?_
        refine hq_getI 45 rfl rfl rfl ?_
        refine sp_I (y := ((I 65 80) + (Int32.ofInt 1))) (by simp [mm_u]) ?_
        exact st_iret rfl rfl (Nat.le_refl _) (Nat.le_refl _) k
      · have k := k.1 q
        refine sp_iconst 20 rfl rfl ?_
        exact st_iret rfl rfl (Nat.le_refl _) (Nat.le_refl _) k
theorem sg_X11_keep {SL : Nat} {xs : Nat → Int32} {d : Nat} {p s q : Nat} {Q : Option Value → mm_H → Prop} {a0 : Int32} {I : Nat → Nat → Int32} {J : Nat → Nat → Int64}  (k : ((a0 < Int32.ofInt 0 → Q (some (.int (Int32.ofInt (-1)))) (hp p s q I J)) ∧ (¬ (a0 < Int32.ofInt 0) → ((a0 ≤ (I 65 80) → Q (some (.int a0)) (hp p s q (mm_u I 65 80 a0) J)) ∧ (¬ (a0 ≤ (I 65 80)) → Q (some (.int (Int32.ofInt (-1)))) (hp p s q I J)))))) : mm_s SL xs (d + 1) 231 [.ref 65, .int a0] (hp p s q I J) Q := by
  refine e_X11_keep rfl ?_
  refine sp_iload_n 1 rfl rfl rfl ?_
  refine sp_if_lt 4 rfl rfl (fun q => ?_) (fun q => ?_)
  · have k := k.1 q
    refine sp_iconst 13 rfl rfl ?_
    exact st_iret rfl rfl (Nat.le_refl _) (Nat.le_refl _) k
  · have k := k.2 q
    refine sp_iload_n 5 rfl rfl rfl ?_
    refine sp_aload_n 6 rfl rfl rfl ?_
    refine hq_getI 9 rfl rfl rfl ?_
    refine sp_ic_le 12 rfl rfl (fun q => ?_) (fun q => ?_)
    · have k := k.1 q
      refine sp_aload_n 15 rfl rfl rfl ?_
      refine sp_iload_n 16 rfl rfl rfl ?_
      refine hq_putI 19 rfl rfl rfl ?_
      refine sp_iload_n 20 rfl rfl rfl ?_
      exact st_iret rfl rfl (Nat.le_refl _) (Nat.le_refl _) k
    · have k := k.2 q
      refine sp_iconst 13 rfl rfl ?_
      exact st_iret rfl rfl (Nat.le_refl _) (Nat.le_refl _) k
def w_X11_farOf_15 (SL : Nat) (xs : Nat → Int32) (d : Nat) (p s q : Nat) (Q : Option Value → mm_H → Prop) (v0 : Int64) (v2 : Int32) (v3 : Int64) (v5 : Int64) (I : Nat → Nat → Int32) (J : Nat → Nat → Int64) : Prop := mm_w SL xs (mm_s SL xs (d + 0)) mm_am kX11_farOf 0 0 (some .long) Q 15 [some (.long v0), none, some (.int v2), some (.long v3), none, some (.long v5), none] [] (hp p s q I J) 0 0
theorem sg_X11_farOf {SL : Nat} {xs : Nat → Int32} {d : Nat} {p s q : Nat} {Q : Option Value → mm_H → Prop} {a0 : Int64} {a1 : Int32} {a2 : Int64} {I : Nat → Nat → Int32} {J : Nat → Nat → Int64}  (k : ((a1 = (Int32.ofInt 1) → Q (some (.long (a2 - (Int64.ofInt 1)))) (hp p s q I J)) ∧ (¬ (a1 = (Int32.ofInt 1)) → w_X11_farOf_15 SL xs d p s q Q a0 a1 a2 (((a1).toInt64) * a2) I J))) : mm_s SL xs (d + 1) 233 [.long a0, .int a1, .long a2] (hp p s q I J) Q := by
  refine e_X11_farOf rfl ?_
  refine sp_iload_n 1 rfl rfl rfl ?_
  refine sp_iconst 2 rfl rfl ?_
  refine sp_ic_ne 5 rfl rfl (fun q => ?_) (fun q => ?_)
  · have k := k.2 q
    refine sp_iload_n 10 rfl rfl rfl ?_
    refine sp_i2l 11 rfl rfl ?_
    refine sp_lload_n 12 rfl rfl rfl ?_
    refine sp_lmul 13 rfl rfl ?_
    refine sp_lstore 15 rfl rfl rfl ?_
    exact k
  · have k := k.1 q
    refine sp_lload_n 6 rfl rfl rfl ?_
    refine sp_lconst 7 rfl rfl ?_
    refine sp_J (y := Int64.ofInt 1) rfl ?_
    refine sp_lsub 8 rfl rfl ?_
    exact st_lret rfl rfl (Nat.le_refl _) (Nat.le_refl _) k
theorem sg_X11_farOf_15 {SL : Nat} {xs : Nat → Int32} {d : Nat} {p s q : Nat} {Q : Option Value → mm_H → Prop} {v0 : Int64} {v2 : Int32} {v3 : Int64} {v5 : Int64} {I : Nat → Nat → Int32} {J : Nat → Nat → Int64}  (k : ((v5 ≤ v0 → Q (some (.long (v5 - (Int64.ofInt 1)))) (hp p s q I J)) ∧ (¬ (v5 ≤ v0) → (¬ (((v2).toInt64) - (Int64.ofInt 1)) = 0 ∧ w_X11_farOf_15 SL xs d p s q Q v0 v2 v3 (((((v2).toInt64) * (v5 - v0)) - (Int64.ofInt 1)) / (((v2).toInt64) - (Int64.ofInt 1))) I J)))) : w_X11_farOf_15 SL xs d p s q Q v0 v2 v3 v5 I J := by
  unfold w_X11_farOf_15
  refine sp_lload 17 rfl rfl rfl ?_
  refine sp_lload_n 18 rfl rfl rfl ?_
  refine sp_lcmp 19 rfl rfl ?_
  refine sp_if_le 22 rfl rfl (fun q => ?_) (fun q => ?_)
  · have k := k.1 ((lg_cmp_le _ _).mp q)
    refine sp_lload 43 rfl rfl rfl ?_
    refine sp_lconst 44 rfl rfl ?_
    refine sp_J (y := Int64.ofInt 1) rfl ?_
    refine sp_lsub 45 rfl rfl ?_
    exact st_lret rfl rfl (Nat.le_refl _) (Nat.le_refl _) k
  · have k := k.2 (fun z => q ((lg_cmp_le _ _).mpr z))
    refine sp_iload_n 23 rfl rfl rfl ?_
    refine sp_i2l 24 rfl rfl ?_
    refine sp_lload 26 rfl rfl rfl ?_
    refine sp_lload_n 27 rfl rfl rfl ?_
    refine sp_lsub 28 rfl rfl ?_
    refine sp_lmul 29 rfl rfl ?_
    refine sp_lconst 30 rfl rfl ?_
    refine sp_J (y := Int64.ofInt 1) rfl ?_
    refine sp_lsub 31 rfl rfl ?_
    refine sp_iload_n 32 rfl rfl rfl ?_
    refine sp_i2l 33 rfl rfl ?_
    refine sp_lconst 34 rfl rfl ?_
    refine sp_J (y := Int64.ofInt 1) rfl ?_
    refine sp_lsub 35 rfl rfl ?_
    have n1_ := k.1
    have k := k.2
    refine sp_ldiv 36 rfl n1_ rfl ?_
    refine sp_lstore 38 rfl rfl rfl ?_
    refine sp_goto rfl ?_
    exact k
def w_X11_size_38 (SL : Nat) (xs : Nat → Int32) (d : Nat) (p s q : Nat) (Q : Option Value → mm_H → Prop) (v1 : Int32) (v2 : Int32) (v3 : Int32) (v4 : Int32) (v5 : Int32) (v6 : Int32) (I : Nat → Nat → Int32) (J : Nat → Nat → Int64) : Prop := mm_w SL xs (mm_s SL xs (d + 0)) mm_am kX11_size 0 0 (some .int) Q 38 [some (.ref 65), some (.int v1), some (.int v2), some (.int v3), some (.int v4), some (.int v5), some (.int v6)] [] (hp p s q I J) 0 0
theorem sg_X11_size {SL : Nat} {xs : Nat → Int32} {d : Nat} {p s q : Nat} {Q : Option Value → mm_H → Prop} {a0 : Int32} {a1 : Int32} {a2 : Int32} {I : Nat → Nat → Int32} {J : Nat → Nat → Int64}  (k : ((a0 < (Int32.ofInt 1) → Q (some (.int (Int32.ofInt (-1)))) (hp p s q I J)) ∧ (¬ (a0 < (Int32.ofInt 1)) → (((Int32.ofInt 1000) < a0 → Q (some (.int (Int32.ofInt (-1)))) (hp p s q I J)) ∧ (¬ ((Int32.ofInt 1000) < a0) → ((a1 < Int32.ofInt 0 → Q (some (.int (Int32.ofInt (-1)))) (hp p s q I J)) ∧ (¬ (a1 < Int32.ofInt 0) → (((Int32.ofInt 5000) ≤ a1 → Q (some (.int (Int32.ofInt (-1)))) (hp p s q I J)) ∧ (¬ ((Int32.ofInt 5000) ≤ a1) → ((Int32.ofInt 0 ≤ a2 → w_X11_size_38 SL xs d p s q Q a0 a1 a2 (Int32.ofInt 0) (Int32.ofInt 0) (Int32.ofInt 1) I J) ∧ (¬ (Int32.ofInt 0 ≤ a2) → Q (some (.int (Int32.ofInt (-1)))) (hp p s q I J)))))))))))) : mm_s SL xs (d + 1) 237 [.ref 65, .int a0, .int a1, .int a2] (hp p s q I J) Q := by
  refine e_X11_size rfl ?_
  refine sp_iload_n 1 rfl rfl rfl ?_
  refine sp_iconst 2 rfl rfl ?_
  refine sp_ic_lt 5 rfl rfl (fun q => ?_) (fun q => ?_)
  · have k := k.1 q
    refine sp_iconst 28 rfl rfl ?_
    exact st_iret rfl rfl (Nat.le_refl _) (Nat.le_refl _) k
  · have k := k.2 q
    refine sp_iload_n 6 rfl rfl rfl ?_
    refine sp_sipush 9 rfl rfl ?_
    refine sp_I (y := Int32.ofInt 1000) rfl ?_
    refine sp_ic_gt 12 rfl rfl (fun q => ?_) (fun q => ?_)
    · have k := k.1 q
      refine sp_iconst 28 rfl rfl ?_
      exact st_iret rfl rfl (Nat.le_refl _) (Nat.le_refl _) k
    · have k := k.2 q
      refine sp_iload_n 13 rfl rfl rfl ?_
      refine sp_if_lt 16 rfl rfl (fun q => ?_) (fun q => ?_)
      · have k := k.1 q
        refine sp_iconst 28 rfl rfl ?_
        exact st_iret rfl rfl (Nat.le_refl _) (Nat.le_refl _) k
      · have k := k.2 q
        refine sp_iload_n 17 rfl rfl rfl ?_
        refine sp_sipush 20 rfl rfl ?_
        refine sp_I (y := Int32.ofInt 5000) rfl ?_
        refine sp_ic_ge 23 rfl rfl (fun q => ?_) (fun q => ?_)
        · have k := k.1 q
          refine sp_iconst 28 rfl rfl ?_
          exact st_iret rfl rfl (Nat.le_refl _) (Nat.le_refl _) k
        · have k := k.2 q
          refine sp_iload_n 24 rfl rfl rfl ?_
          refine sp_if_ge 27 rfl rfl (fun q => ?_) (fun q => ?_)
          · have k := k.1 q
            refine sp_iconst 30 rfl rfl ?_
            refine sp_istore 32 rfl rfl rfl ?_
            refine sp_iconst 33 rfl rfl ?_
            refine sp_istore 35 rfl rfl rfl ?_
            refine sp_iconst 36 rfl rfl ?_
            refine sp_istore 38 rfl rfl rfl ?_
            exact k
          · have k := k.2 q
            refine sp_iconst 28 rfl rfl ?_
            exact st_iret rfl rfl (Nat.le_refl _) (Nat.le_refl _) k
theorem sg_X11_size_38 {SL : Nat} {xs : Nat → Int32} {d : Nat} {p s q : Nat} {Q : Option Value → mm_H → Prop} {v1 : Int32} {v2 : Int32} {v3 : Int32} {v4 : Int32} {v5 : Int32} {v6 : Int32} {I : Nat → Nat → Int32} {J : Nat → Nat → Int64}  (k : (((Int32.ofInt 5000) < v6 → Q (some (.int (Int32.ofInt (-1)))) (hp p s q I J)) ∧ (¬ ((Int32.ofInt 5000) < v6) → ((v6 = (Int32.ofInt 1) → (((Int32.ofInt 0) = v2 → ((v5 = v3 → Q (some (.int v6)) (hp p s q I J)) ∧ (¬ (v5 = v3) → w_X11_size_38 SL xs d p s q Q v1 v2 v3 (Int32.ofInt 0) (v5 + Int32.ofInt 1) (v6 + Int32.ofInt 1) I J))) ∧ (¬ ((Int32.ofInt 0) = v2) → w_X11_size_38 SL xs d p s q Q v1 v2 v3 (Int32.ofInt 0) v5 (v6 + Int32.ofInt 1) I J))) ∧ (¬ (v6 = (Int32.ofInt 1)) → (¬ v6 = 0 ∧ ((((v4 + v1) - (v4 + v1) / v6 * v6) = v2 → ((v5 = v3 → Q (some (.int v6)) (hp p s q I J)) ∧ (¬ (v5 = v3) → w_X11_size_38 SL xs d p s q Q v1 v2 v3 ((v4 + v1) - (v4 + v1) / v6 * v6) (v5 + Int32.ofInt 1) (v6 + Int32.ofInt 1) I J))) ∧ (¬ (((v4 + v1) - (v4 + v1) / v6 * v6) = v2) → w_X11_size_38 SL xs d p s q Q v1 v2 v3 ((v4 + v1) - (v4 + v1) / v6 * v6) v5 (v6 + Int32.ofInt 1) I J)))))))) : w_X11_size_38 SL xs d p s q Q v1 v2 v3 v4 v5 v6 I J := by
  unfold w_X11_size_38
  refine sp_iload 40 rfl rfl rfl ?_
  refine sp_sipush 43 rfl rfl ?_
  refine sp_I (y := Int32.ofInt 5000) rfl ?_
  refine sp_ic_gt 46 rfl rfl (fun q => ?_) (fun q => ?_)
  · have k := k.1 q
    refine sp_iconst 93 rfl rfl ?_
    exact st_iret rfl rfl (Nat.le_refl _) (Nat.le_refl _) k
  · have k := k.2 q
    refine sp_iload 48 rfl rfl rfl ?_
    refine sp_iconst 49 rfl rfl ?_
    refine sp_ic_ne 52 rfl rfl (fun q => ?_) (fun q => ?_)
    · have k := k.2 q
      refine sp_iload 58 rfl rfl rfl ?_
      refine sp_iload_n 59 rfl rfl rfl ?_
      refine sp_iadd 60 rfl rfl ?_
      refine sp_iload 62 rfl rfl rfl ?_
      have n1_ := k.1
      have k := k.2
      refine sp_irem 63 rfl n1_ rfl ?_
      refine sp_istore 65 rfl rfl rfl ?_
      refine sp_iload 67 rfl rfl rfl ?_
      refine sp_iload_n 68 rfl rfl rfl ?_
      refine sp_ic_eq 71 rfl rfl (fun q => ?_) (fun q => ?_)
      · have k := k.1 q
        refine sp_iload 76 rfl rfl rfl ?_
        refine sp_iload_n 77 rfl rfl rfl ?_
        refine sp_ic_ne 80 rfl rfl (fun q => ?_) (fun q => ?_)
        · have k := k.2 q
          refine sp_iinc 86 rfl rfl rfl rfl ?_
          refine sp_iinc 89 rfl rfl rfl rfl ?_
          refine sp_goto rfl ?_
          exact k
        · have k := k.1 q
          refine sp_iload 82 rfl rfl rfl ?_
          exact st_iret rfl rfl (Nat.le_refl _) (Nat.le_refl _) k
      · have k := k.2 q
        refine sp_goto rfl ?_
        refine sp_iinc 89 rfl rfl rfl rfl ?_
        refine sp_goto rfl ?_
        exact k
    · have k := k.1 q
      refine sp_iconst 53 rfl rfl ?_
      refine sp_goto rfl ?_
      refine sp_istore 65 rfl rfl rfl ?_
      refine sp_iload 67 rfl rfl rfl ?_
      refine sp_iload_n 68 rfl rfl rfl ?_
      refine sp_ic_eq 71 rfl rfl (fun q => ?_) (fun q => ?_)
      · have k := k.1 q
        refine sp_iload 76 rfl rfl rfl ?_
        refine sp_iload_n 77 rfl rfl rfl ?_
        refine sp_ic_ne 80 rfl rfl (fun q => ?_) (fun q => ?_)
        · have k := k.2 q
          refine sp_iinc 86 rfl rfl rfl rfl ?_
          refine sp_iinc 89 rfl rfl rfl rfl ?_
          refine sp_goto rfl ?_
          exact k
        · have k := k.1 q
          refine sp_iload 82 rfl rfl rfl ?_
          exact st_iret rfl rfl (Nat.le_refl _) (Nat.le_refl _) k
      · have k := k.2 q
        refine sp_goto rfl ?_
        refine sp_iinc 89 rfl rfl rfl rfl ?_
        refine sp_goto rfl ?_
        exact k
def w_X11_ones_4 (SL : Nat) (xs : Nat → Int32) (d : Nat) (p s q : Nat) (Q : Option Value → mm_H → Prop) (v0 : Int64) (v2 : Int32) (v3 : Int32) (I : Nat → Nat → Int32) (J : Nat → Nat → Int64) : Prop := mm_w SL xs (mm_s SL xs (d + 0)) mm_am kX11_ones 0 0 (some .int) Q 4 [some (.long v0), none, some (.int v2), some (.int v3)] [] (hp p s q I J) 0 0
theorem sg_X11_ones {SL : Nat} {xs : Nat → Int32} {d : Nat} {p s q : Nat} {Q : Option Value → mm_H → Prop} {a0 : Int64} {I : Nat → Nat → Int32} {J : Nat → Nat → Int64}  (k : w_X11_ones_4 SL xs d p s q Q a0 (Int32.ofInt 0) (Int32.ofInt 0) I J) : mm_s SL xs (d + 1) 239 [.long a0] (hp p s q I J) Q := by
  refine e_X11_ones rfl ?_
  refine sp_iconst 1 rfl rfl ?_
  refine sp_istore_n 2 rfl rfl rfl ?_
  refine sp_iconst 3 rfl rfl ?_
  refine sp_istore_n 4 rfl rfl rfl ?_
  exact k
theorem sg_X11_ones_4 {SL : Nat} {xs : Nat → Int32} {d : Nat} {p s q : Nat} {Q : Option Value → mm_H → Prop} {v0 : Int64} {v2 : Int32} {v3 : Int32} {I : Nat → Nat → Int32} {J : Nat → Nat → Int64}  (k : (((Int32.ofInt 60) ≤ v3 → Q (some (.int v2)) (hp p s q I J)) ∧ (¬ ((Int32.ofInt 60) ≤ v3) → w_X11_ones_4 SL xs d p s q Q v0 (v2 + ((((v0 >>> ((v3).toInt64 &&& 63)) &&& (Int64.ofInt 1))).toInt32)) (v3 + Int32.ofInt 1) I J))) : w_X11_ones_4 SL xs d p s q Q v0 v2 v3 I J := by
  unfold w_X11_ones_4
  refine sp_iload_n 5 rfl rfl rfl ?_
  refine sp_bipush 7 rfl rfl ?_
  refine sp_I (y := Int32.ofInt 60) rfl ?_
  refine sp_ic_ge 10 rfl rfl (fun q => ?_) (fun q => ?_)
  · have k := k.1 q
    refine sp_iload_n 26 rfl rfl rfl ?_
    exact st_iret rfl rfl (Nat.le_refl _) (Nat.le_refl _) k
  · have k := k.2 q
    refine sp_iload_n 11 rfl rfl rfl ?_
    refine sp_lload_n 12 rfl rfl rfl ?_
    refine sp_iload_n 13 rfl rfl rfl ?_
    refine sp_lshr 14 rfl rfl ?_
    refine sp_lconst 15 rfl rfl ?_
    refine sp_J (y := Int64.ofInt 1) rfl ?_
    refine sp_land 16 rfl rfl ?_
    refine sp_l2i 17 rfl rfl ?_
    refine sp_iadd 18 rfl rfl ?_
    refine sp_istore_n 19 rfl rfl rfl ?_
    refine sp_iinc 22 rfl rfl rfl rfl ?_
    refine sp_goto rfl ?_
    exact k
def w_X11_common_6 (SL : Nat) (xs : Nat → Int32) (d : Nat) (p s q : Nat) (Q : Option Value → mm_H → Prop) (v0 : Int64) (v2 : Int64) (v4 : Int64) (v6 : Int64) (I : Nat → Nat → Int32) (J : Nat → Nat → Int64) : Prop := mm_w SL xs (mm_s SL xs (d + 0)) mm_am kX11_common 0 0 (some .long) Q 6 [some (.long v0), none, some (.long v2), none, some (.long v4), none, some (.long v6), none, none, none] [] (hp p s q I J) 0 0
theorem sg_X11_common {SL : Nat} {xs : Nat → Int32} {d : Nat} {p s q : Nat} {Q : Option Value → mm_H → Prop} {a0 : Int64} {a1 : Int64} {I : Nat → Nat → Int32} {J : Nat → Nat → Int64}  (k : w_X11_common_6 SL xs d p s q Q a0 a1 a0 a1 I J) : mm_s SL xs (d + 1) 243 [.long a0, .long a1] (hp p s q I J) Q := by
  refine e_X11_common rfl ?_
  refine sp_lload_n 1 rfl rfl rfl ?_
  refine sp_lstore 3 rfl rfl rfl ?_
  refine sp_lload_n 4 rfl rfl rfl ?_
  refine sp_lstore 6 rfl rfl rfl ?_
  exact k
theorem sg_X11_common_6 {SL : Nat} {xs : Nat → Int32} {d : Nat} {p s q : Nat} {Q : Option Value → mm_H → Prop} {v0 : Int64} {v2 : Int64} {v4 : Int64} {v6 : Int64} {I : Nat → Nat → Int32} {J : Nat → Nat → Int64}  (k : ((v6 ≤ (Int64.ofInt 0) → Q (some (.long v4)) (hp p s q I J)) ∧ (¬ (v6 ≤ (Int64.ofInt 0)) → (¬ v6 = 0 ∧ w_X11_common_6 SL xs d p s q Q v0 v2 v6 (v4 - v4 / v6 * v6) I J)))) : w_X11_common_6 SL xs d p s q Q v0 v2 v4 v6 I J := by
  unfold w_X11_common_6
  refine sp_lload 8 rfl rfl rfl ?_
  refine sp_lconst 9 rfl rfl ?_
  refine sp_J (y := Int64.ofInt 0) rfl ?_
  refine sp_lcmp 10 rfl rfl ?_
  refine sp_if_le 13 rfl rfl (fun q => ?_) (fun q => ?_)
  · have k := k.1 ((lg_cmp_le _ _).mp q)
    refine sp_lload 33 rfl rfl rfl ?_
    exact st_lret rfl rfl (Nat.le_refl _) (Nat.le_refl _) k
  · have k := k.2 (fun z => q ((lg_cmp_le _ _).mpr z))
    refine sp_lload 15 rfl rfl rfl ?_
    refine sp_lload 17 rfl rfl rfl ?_
    have n1_ := k.1
    have k := k.2
    refine sp_lrem 18 rfl n1_ rfl ?_
    refine sp_lstore 20 rfl rfl rfl ?_
    refine sp_lload 22 rfl rfl rfl ?_
    refine sp_lstore 24 rfl rfl rfl ?_
    refine sp_lload 26 rfl rfl rfl ?_
    refine sp_lstore 28 rfl rfl rfl ?_
    refine sp_goto rfl ?_
    refine st_wk (L1 := [some (.long v0), none, some (.long v2), none, some (.long v6), none, some (.long (v4 - v4 / v6 * v6)), none, none, none]) ⟨.inr rfl, .inl rfl, .inr rfl, .inl rfl, .inr rfl, .inl rfl, .inr rfl, .inl rfl, .inl rfl, .inl rfl, trivial⟩ ?_
    exact k
def w_X11_looked_22 (SL : Nat) (xs : Nat → Int32) (d : Nat) (p s q : Nat) (Q : Option Value → mm_H → Prop) (v1 : Int32) (v2 : Int32) (v3 : Int32) (v4 : Int32) (v5 : Int32) (I : Nat → Nat → Int32) (J : Nat → Nat → Int64) : Prop := mm_w SL xs (mm_s SL xs (d + 0)) mm_am kX11_looked 0 0 (some .int) Q 22 [some (.ref 65), some (.int v1), some (.int v2), some (.int v3), some (.int v4), some (.int v5)] [] (hp p s q I J) 0 0
theorem sg_X11_looked {SL : Nat} {xs : Nat → Int32} {d : Nat} {p s q : Nat} {Q : Option Value → mm_H → Prop} {a0 : Int32} {a1 : Int32} {a2 : Int32} {I : Nat → Nat → Int32} {J : Nat → Nat → Int64}  (k : ((a0 ≤ a2 → Q (some (.int (Int32.ofInt 0))) (hp p s q I J)) ∧ (¬ (a0 ≤ a2) → (vp_in a2 60 ∧ (((I 98 ((a2).toNatClampNeg)) = Int32.ofInt 0 → Q (some (.int (Int32.ofInt 0))) (hp p s q I J)) ∧ (¬ ((I 98 ((a2).toNatClampNeg)) = Int32.ofInt 0) → w_X11_looked_22 SL xs d p s q Q a0 a1 a2 (Int32.ofInt 0) a1 I J)))))) : mm_s SL xs (d + 1) 244 [.ref 65, .int a0, .int a1, .int a2] (hp p s q I J) Q := by
  refine e_X11_looked rfl ?_
  refine sp_iload_n 1 rfl rfl rfl ?_
  refine sp_iload_n 2 rfl rfl rfl ?_
  refine sp_ic_ge 5 rfl rfl (fun q => ?_) (fun q => ?_)
  · have k := k.1 q
    refine sp_iconst 15 rfl rfl ?_
    exact st_iret rfl rfl (Nat.le_refl _) (Nat.le_refl _) k
  · have k := k.2 q
    refine sp_aload_n 6 rfl rfl rfl ?_
    refine hq_getR 9 rfl rfl rfl rfl ?_
    refine sp_iload_n 10 rfl rfl rfl ?_
    have n1_ := k.1
    have k := k.2
    refine hq_zald 11 rfl rfl n1_ rfl ?_
    refine sp_if_ne 14 rfl rfl (fun q => ?_) (fun q => ?_)
    · have k := k.2 q
      refine sp_iconst 17 rfl rfl ?_
      refine sp_istore 19 rfl rfl rfl ?_
      refine sp_iload_n 20 rfl rfl rfl ?_
      refine sp_istore 22 rfl rfl rfl ?_
      exact k
    · have k := k.1 q
      refine sp_iconst 15 rfl rfl ?_
      exact st_iret rfl rfl (Nat.le_refl _) (Nat.le_refl _) k
theorem sg_X11_looked_22 {SL : Nat} {xs : Nat → Int32} {d : Nat} {p s q : Nat} {Q : Option Value → mm_H → Prop} {v1 : Int32} {v2 : Int32} {v3 : Int32} {v4 : Int32} {v5 : Int32} {I : Nat → Nat → Int32} {J : Nat → Nat → Int64}  (k : (¬ v1 = 0 ∧ (vp_in ((v5 + (Int32.ofInt 1)) - (v5 + (Int32.ofInt 1)) / v1 * v1) 60 ∧ (((I 98 ((((v5 + (Int32.ofInt 1)) - (v5 + (Int32.ofInt 1)) / v1 * v1)).toNatClampNeg)) = Int32.ofInt 0 → ((((v5 + (Int32.ofInt 1)) - (v5 + (Int32.ofInt 1)) / v1 * v1) = v3 → Q (some (.int (v4 + (Int32.ofInt 0)))) (hp p s q I J)) ∧ (¬ (((v5 + (Int32.ofInt 1)) - (v5 + (Int32.ofInt 1)) / v1 * v1) = v3) → w_X11_looked_22 SL xs d p s q Q v1 v2 v3 (v4 + (Int32.ofInt 0)) ((v5 + (Int32.ofInt 1)) - (v5 + (Int32.ofInt 1)) / v1 * v1) I J))) ∧ (¬ ((I 98 ((((v5 + (Int32.ofInt 1)) - (v5 + (Int32.ofInt 1)) / v1 * v1)).toNatClampNeg)) = Int32.ofInt 0) → ((((v5 + (Int32.ofInt 1)) - (v5 + (Int32.ofInt 1)) / v1 * v1) = v3 → Q (some (.int (v4 + (Int32.ofInt 1)))) (hp p s q I J)) ∧ (¬ (((v5 + (Int32.ofInt 1)) - (v5 + (Int32.ofInt 1)) / v1 * v1) = v3) → w_X11_looked_22 SL xs d p s q Q v1 v2 v3 (v4 + (Int32.ofInt 1)) ((v5 + (Int32.ofInt 1)) - (v5 + (Int32.ofInt 1)) / v1 * v1) I J))))))) : w_X11_looked_22 SL xs d p s q Q v1 v2 v3 v4 v5 I J := by
  unfold w_X11_looked_22
  refine sp_iload 24 rfl rfl rfl ?_
  refine sp_iconst 25 rfl rfl ?_
  refine sp_iadd 26 rfl rfl ?_
  refine sp_iload_n 27 rfl rfl rfl ?_
  have n2_ := k.1
  have k := k.2
  refine sp_irem 28 rfl n2_ rfl ?_
  refine sp_istore 30 rfl rfl rfl ?_
  refine sp_iload 32 rfl rfl rfl ?_
  refine sp_aload_n 33 rfl rfl rfl ?_
  refine hq_getR 36 rfl rfl rfl rfl ?_
  refine sp_iload 38 rfl rfl rfl ?_
  have n3_ := k.1
  have k := k.2
  refine hq_zald 39 rfl rfl n3_ rfl ?_
  refine sp_if_eq 42 rfl rfl (fun q => ?_) (fun q => ?_)
  · have k := k.1 q
    refine sp_iconst 47 rfl rfl ?_
    refine sp_iadd 48 rfl rfl ?_
    refine sp_istore 50 rfl rfl rfl ?_
    refine sp_iload 52 rfl rfl rfl ?_
    refine sp_iload_n 53 rfl rfl rfl ?_
    refine sp_ic_ne 56 rfl rfl (fun q => ?_) (fun q => ?_)
    · have k := k.2 q
      exact k
    · have k := k.1 q
      refine sp_iload 58 rfl rfl rfl ?_
      exact st_iret rfl rfl (Nat.le_refl _) (Nat.le_refl _) k
  · have k := k.2 q
    refine sp_iconst 43 rfl rfl ?_
    refine sp_goto rfl ?_
    refine sp_iadd 48 rfl rfl ?_
    refine sp_istore 50 rfl rfl rfl ?_
    refine sp_iload 52 rfl rfl rfl ?_
    refine sp_iload_n 53 rfl rfl rfl ?_
    refine sp_ic_ne 56 rfl rfl (fun q => ?_) (fun q => ?_)
    · have k := k.2 q
      exact k
    · have k := k.1 q
      refine sp_iload 58 rfl rfl rfl ?_
      exact st_iret rfl rfl (Nat.le_refl _) (Nat.le_refl _) k
def w_X11_goesSo_3 (SL : Nat) (xs : Nat → Int32) (d : Nat) (p s q : Nat) (Q : Option Value → mm_H → Prop) (v1 : Int32) (v2 : Int32) (v3 : Int32) (v4 : Int32) (v5 : Int32) (I : Nat → Nat → Int32) (J : Nat → Nat → Int64) : Prop := mm_w SL xs (mm_s SL xs (d + 0)) mm_am kX11_goesSo 0 0 (some .boolean) Q 3 [some (.ref 65), some (.int v1), some (.int v2), some (.int v3), some (.int v4), some (.int v5), none, none, none, none, none] [] (hp p s q I J) 0 0
def w_X11_goesSo_35 (SL : Nat) (xs : Nat → Int32) (d : Nat) (p s q : Nat) (Q : Option Value → mm_H → Prop) (v1 : Int32) (v2 : Int32) (v3 : Int32) (v4 : Int32) (v5 : Int32) (v6 : Int32) (v7 : Int32) (v8 : Int32) (I : Nat → Nat → Int32) (J : Nat → Nat → Int64) : Prop := mm_w SL xs (mm_s SL xs (d + 0)) mm_am kX11_goesSo 0 0 (some .boolean) Q 35 [some (.ref 65), some (.int v1), some (.int v2), some (.int v3), some (.int v4), some (.int v5), some (.int v6), some (.int v7), some (.int v8), none, none] [] (hp p s q I J) 0 0
def w_X11_goesSo_84 (SL : Nat) (xs : Nat → Int32) (d : Nat) (p s q : Nat) (Q : Option Value → mm_H → Prop) (v1 : Int32) (v2 : Int32) (v3 : Int32) (v4 : Int32) (v5 : Int32) (v6 : Int32) (v7 : Int32) (v8 : Int32) (v9 : Int32) (v10 : Int32) (I : Nat → Nat → Int32) (J : Nat → Nat → Int64) : Prop := mm_w SL xs (mm_s SL xs (d + 0)) mm_am kX11_goesSo 0 0 (some .boolean) Q 84 [some (.ref 65), some (.int v1), some (.int v2), some (.int v3), some (.int v4), some (.int v5), some (.int v6), some (.int v7), some (.int v8), some (.int v9), some (.int v10)] [] (hp p s q I J) 0 0
theorem sg_X11_goesSo {SL : Nat} {xs : Nat → Int32} {d : Nat} {p s q : Nat} {Q : Option Value → mm_H → Prop} {a0 : Int32} {a1 : Int32} {a2 : Int32} {a3 : Int32} {I : Nat → Nat → Int32} {J : Nat → Nat → Int64}  (k : w_X11_goesSo_3 SL xs d p s q Q a0 a1 a2 a3 (Int32.ofInt 0) I J) : mm_s SL xs (d + 1) 246 [.ref 65, .int a0, .int a1, .int a2, .int a3] (hp p s q I J) Q := by
  refine e_X11_goesSo rfl ?_
  refine sp_iconst 1 rfl rfl ?_
  refine sp_istore 3 rfl rfl rfl ?_
  exact k
theorem sg_X11_goesSo_3 {SL : Nat} {xs : Nat → Int32} {d : Nat} {p s q : Nat} {Q : Option Value → mm_H → Prop} {v1 : Int32} {v2 : Int32} {v3 : Int32} {v4 : Int32} {v5 : Int32} {I : Nat → Nat → Int32} {J : Nat → Nat → Int64}  (k : ((v1 ≤ v5 → w_X11_goesSo_35 SL xs d p s q Q v1 v2 v3 v4 v1 (Int32.ofInt 1) (Int32.ofInt (-1)) (Int32.ofInt 1) I J) ∧ (¬ (v1 ≤ v5) → (vp_in v5 60 ∧ w_X11_goesSo_3 SL xs d p s q Q v1 v2 v3 v4 (v5 + Int32.ofInt 1) (mm_u I 98 ((v5).toNatClampNeg) (Int32.ofInt 1)) J)))) : w_X11_goesSo_3 SL xs d p s q Q v1 v2 v3 v4 v5 I J := by
  unfold w_X11_goesSo_3
  refine sp_iload 5 rfl rfl rfl ?_
  refine sp_iload_n 6 rfl rfl rfl ?_
  refine sp_ic_ge 9 rfl rfl (fun q => ?_) (fun q => ?_)
  · have k := k.1 q
    refine sp_iload_n 24 rfl rfl rfl ?_
    refine sp_istore 26 rfl rfl rfl ?_
    refine sp_iconst 27 rfl rfl ?_
    refine sp_istore 29 rfl rfl rfl ?_
    refine sp_iconst 30 rfl rfl ?_
    refine sp_istore 32 rfl rfl rfl ?_
    refine sp_iconst 33 rfl rfl ?_
    refine sp_istore 35 rfl rfl rfl ?_
    exact k
  · have k := k.2 q
    refine sp_aload_n 10 rfl rfl rfl ?_
    refine hq_getR 13 rfl rfl rfl rfl ?_
    refine sp_iload 15 rfl rfl rfl ?_
    refine sp_iconst 16 rfl rfl ?_
    have n1_ := k.1
    have k := k.2
    refine hq_zast 17 rfl rfl n1_ (by decide) rfl ?_
    refine sp_iinc 20 rfl rfl rfl rfl ?_
    refine sp_goto rfl ?_
    exact k
theorem sg_X11_goesSo_35 {SL : Nat} {xs : Nat → Int32} {d : Nat} {p s q : Nat} {Q : Option Value → mm_H → Prop} {v1 : Int32} {v2 : Int32} {v3 : Int32} {v4 : Int32} {v5 : Int32} {v6 : Int32} {v7 : Int32} {v8 : Int32} {I : Nat → Nat → Int32} {J : Nat → Nat → Int64}  (k : (((I 65 80) < v8 → Q (some (.int (Int32.ofInt 1))) (hp p s q I J)) ∧ (¬ ((I 65 80) < v8) → (((v8 - v8 / (Int32.ofInt 2) * (Int32.ofInt 2)) = (Int32.ofInt 1) → (¬ v5 = 0 ∧ ((Int32.ofInt 0 ≤ v7 → (¬ v1 = 0 ∧ w_X11_goesSo_84 SL xs d p s q Q v1 v2 v3 v4 v5 v6 v7 v8 (((v2 - (Int32.ofInt 1)) - (v2 - (Int32.ofInt 1)) / v5 * v5) + (Int32.ofInt 1)) ((v7 + v6) - (v7 + v6) / v1 * v1) I J)) ∧ (¬ (Int32.ofInt 0 ≤ v7) → w_X11_goesSo_84 SL xs d p s q Q v1 v2 v3 v4 v5 v6 v7 v8 (((v2 - (Int32.ofInt 1)) - (v2 - (Int32.ofInt 1)) / v5 * v5) + (Int32.ofInt 1)) (Int32.ofInt 0) I J)))) ∧ (¬ ((v8 - v8 / (Int32.ofInt 2) * (Int32.ofInt 2)) = (Int32.ofInt 1)) → (¬ v5 = 0 ∧ ((Int32.ofInt 0 ≤ v7 → (¬ v1 = 0 ∧ w_X11_goesSo_84 SL xs d p s q Q v1 v2 v3 v4 v5 v6 v7 v8 (((v3 - (Int32.ofInt 1)) - (v3 - (Int32.ofInt 1)) / v5 * v5) + (Int32.ofInt 1)) ((v7 + v6) - (v7 + v6) / v1 * v1) I J)) ∧ (¬ (Int32.ofInt 0 ≤ v7) → w_X11_goesSo_84 SL xs d p s q Q v1 v2 v3 v4 v5 v6 v7 v8 (((v3 - (Int32.ofInt 1)) - (v3 - (Int32.ofInt 1)) / v5 * v5) + (Int32.ofInt 1)) (Int32.ofInt 0) I J)))))))) : w_X11_goesSo_35 SL xs d p s q Q v1 v2 v3 v4 v5 v6 v7 v8 I J := by
  unfold w_X11_goesSo_35
  refine sp_iload 37 rfl rfl rfl ?_
  refine sp_aload_n 38 rfl rfl rfl ?_
  refine hq_getI 41 rfl rfl rfl ?_
  refine sp_ic_gt 44 rfl rfl (fun q => ?_) (fun q => ?_)
  · have k := k.1 q
    refine sp_iconst 183 rfl rfl ?_
    exact st_zret rfl rfl (by decide) (Nat.le_refl _) (Nat.le_refl _) k
  · have k := k.2 q
    refine sp_iload 46 rfl rfl rfl ?_
    refine sp_iconst 47 rfl rfl ?_
    refine sp_irem 48 rfl (by decide) rfl ?_
    refine sp_iconst 49 rfl rfl ?_
    refine sp_ic_ne 52 rfl rfl (fun q => ?_) (fun q => ?_)
    · have k := k.2 q
      refine sp_iload_n 57 rfl rfl rfl ?_
      refine sp_iconst 58 rfl rfl ?_
      refine sp_isub 59 rfl rfl ?_
      refine sp_iload 61 rfl rfl rfl ?_
      have n2_ := k.1
      have k := k.2
      refine sp_irem 62 rfl n2_ rfl ?_
      refine sp_iconst 63 rfl rfl ?_
      refine sp_iadd 64 rfl rfl ?_
      refine sp_istore 66 rfl rfl rfl ?_
      refine sp_iload 68 rfl rfl rfl ?_
      refine sp_if_ge 71 rfl rfl (fun q => ?_) (fun q => ?_)
      · have k := k.1 q
        refine sp_iload 77 rfl rfl rfl ?_
        refine sp_iload 79 rfl rfl rfl ?_
        refine sp_iadd 80 rfl rfl ?_
        refine sp_iload_n 81 rfl rfl rfl ?_
        have n3_ := k.1
        have k := k.2
        refine sp_irem 82 rfl n3_ rfl ?_
        refine sp_istore 84 rfl rfl rfl ?_
        exact k
      · have k := k.2 q
        refine sp_iconst 72 rfl rfl ?_
        refine sp_goto rfl ?_
        refine sp_istore 84 rfl rfl rfl ?_
        exact k
    · have k := k.1 q
      refine sp_iload_n 53 rfl rfl rfl ?_
      refine sp_goto rfl ?_
      refine sp_iconst 58 rfl rfl ?_
      refine sp_isub 59 rfl rfl ?_
      refine sp_iload 61 rfl rfl rfl ?_
      have n4_ := k.1
      have k := k.2
      refine sp_irem 62 rfl n4_ rfl ?_
      refine sp_iconst 63 rfl rfl ?_
      refine sp_iadd 64 rfl rfl ?_
      refine sp_istore 66 rfl rfl rfl ?_
      refine sp_iload 68 rfl rfl rfl ?_
      refine sp_if_ge 71 rfl rfl (fun q => ?_) (fun q => ?_)
      · have k := k.1 q
        refine sp_iload 77 rfl rfl rfl ?_
        refine sp_iload 79 rfl rfl rfl ?_
        refine sp_iadd 80 rfl rfl ?_
        refine sp_iload_n 81 rfl rfl rfl ?_
        have n5_ := k.1
        have k := k.2
        refine sp_irem 82 rfl n5_ rfl ?_
        refine sp_istore 84 rfl rfl rfl ?_
        exact k
      · have k := k.2 q
        refine sp_iconst 72 rfl rfl ?_
        refine sp_goto rfl ?_
        refine sp_istore 84 rfl rfl rfl ?_
        exact k
theorem sg_X11_goesSo_84 {SL : Nat} {xs : Nat → Int32} {d : Nat} {p s q : Nat} {Q : Option Value → mm_H → Prop} {v1 : Int32} {v2 : Int32} {v3 : Int32} {v4 : Int32} {v5 : Int32} {v6 : Int32} {v7 : Int32} {v8 : Int32} {v9 : Int32} {v10 : Int32} {I : Nat → Nat → Int32} {J : Nat → Nat → Int64}  (k : (vp_in v10 60 ∧ (((I 98 ((v10).toNatClampNeg)) = Int32.ofInt 0 → ((v9 = Int32.ofInt 0 → (vp_in (v8 - (Int32.ofInt 1)) 60 ∧ ((v10 = (I 97 (((v8 - (Int32.ofInt 1))).toNatClampNeg)) → ((v4 ≤ Int32.ofInt 0 → w_X11_goesSo_35 SL xs d p s q Q v1 v2 v3 v4 (v5 + Int32.ofInt (-1)) v6 v10 (v8 + Int32.ofInt 1) (mm_u I 98 ((v10).toNatClampNeg) (Int32.ofInt 0)) J) ∧ (¬ (v4 ≤ Int32.ofInt 0) → (¬ v4 = 0 ∧ (((v8 - v8 / v4 * v4) = Int32.ofInt 0 → ((v6 = (Int32.ofInt 1) → w_X11_goesSo_35 SL xs d p s q Q v1 v2 v3 v4 (v5 + Int32.ofInt (-1)) (v1 - (Int32.ofInt 1)) v10 (v8 + Int32.ofInt 1) (mm_u I 98 ((v10).toNatClampNeg) (Int32.ofInt 0)) J) ∧ (¬ (v6 = (Int32.ofInt 1)) → w_X11_goesSo_35 SL xs d p s q Q v1 v2 v3 v4 (v5 + Int32.ofInt (-1)) (Int32.ofInt 1) v10 (v8 + Int32.ofInt 1) (mm_u I 98 ((v10).toNatClampNeg) (Int32.ofInt 0)) J))) ∧ (¬ ((v8 - v8 / v4 * v4) = Int32.ofInt 0) → w_X11_goesSo_35 SL xs d p s q Q v1 v2 v3 v4 (v5 + Int32.ofInt (-1)) v6 v10 (v8 + Int32.ofInt 1) (mm_u I 98 ((v10).toNatClampNeg) (Int32.ofInt 0)) J)))))) ∧ (¬ (v10 = (I 97 (((v8 - (Int32.ofInt 1))).toNatClampNeg))) → Q (some (.int (Int32.ofInt 0))) (hp p s q I J))))) ∧ (¬ (v9 = Int32.ofInt 0) → (¬ v1 = 0 ∧ w_X11_goesSo_84 SL xs d p s q Q v1 v2 v3 v4 v5 v6 v7 v8 v9 ((v10 + v6) - (v10 + v6) / v1 * v1) I J)))) ∧ (¬ ((I 98 ((v10).toNatClampNeg)) = Int32.ofInt 0) → (((v9 + Int32.ofInt (-1)) = Int32.ofInt 0 → (vp_in (v8 - (Int32.ofInt 1)) 60 ∧ ((v10 = (I 97 (((v8 - (Int32.ofInt 1))).toNatClampNeg)) → ((v4 ≤ Int32.ofInt 0 → w_X11_goesSo_35 SL xs d p s q Q v1 v2 v3 v4 (v5 + Int32.ofInt (-1)) v6 v10 (v8 + Int32.ofInt 1) (mm_u I 98 ((v10).toNatClampNeg) (Int32.ofInt 0)) J) ∧ (¬ (v4 ≤ Int32.ofInt 0) → (¬ v4 = 0 ∧ (((v8 - v8 / v4 * v4) = Int32.ofInt 0 → ((v6 = (Int32.ofInt 1) → w_X11_goesSo_35 SL xs d p s q Q v1 v2 v3 v4 (v5 + Int32.ofInt (-1)) (v1 - (Int32.ofInt 1)) v10 (v8 + Int32.ofInt 1) (mm_u I 98 ((v10).toNatClampNeg) (Int32.ofInt 0)) J) ∧ (¬ (v6 = (Int32.ofInt 1)) → w_X11_goesSo_35 SL xs d p s q Q v1 v2 v3 v4 (v5 + Int32.ofInt (-1)) (Int32.ofInt 1) v10 (v8 + Int32.ofInt 1) (mm_u I 98 ((v10).toNatClampNeg) (Int32.ofInt 0)) J))) ∧ (¬ ((v8 - v8 / v4 * v4) = Int32.ofInt 0) → w_X11_goesSo_35 SL xs d p s q Q v1 v2 v3 v4 (v5 + Int32.ofInt (-1)) v6 v10 (v8 + Int32.ofInt 1) (mm_u I 98 ((v10).toNatClampNeg) (Int32.ofInt 0)) J)))))) ∧ (¬ (v10 = (I 97 (((v8 - (Int32.ofInt 1))).toNatClampNeg))) → Q (some (.int (Int32.ofInt 0))) (hp p s q I J))))) ∧ (¬ ((v9 + Int32.ofInt (-1)) = Int32.ofInt 0) → (¬ v1 = 0 ∧ w_X11_goesSo_84 SL xs d p s q Q v1 v2 v3 v4 v5 v6 v7 v8 (v9 + Int32.ofInt (-1)) ((v10 + v6) - (v10 + v6) / v1 * v1) I J))))))) : w_X11_goesSo_84 SL xs d p s q Q v1 v2 v3 v4 v5 v6 v7 v8 v9 v10 I J := by
  unfold w_X11_goesSo_84
  refine sp_aload_n 85 rfl rfl rfl ?_
  refine hq_getR 88 rfl rfl rfl rfl ?_
  refine sp_iload 90 rfl rfl rfl ?_
  have n6_ := k.1
  have k := k.2
  refine hq_zald 91 rfl rfl n6_ rfl ?_
  refine sp_if_eq 94 rfl rfl (fun q => ?_) (fun q => ?_)
  · have k := k.1 q
    refine sp_iload 99 rfl rfl rfl ?_
    refine sp_if_ne 102 rfl rfl (fun q => ?_) (fun q => ?_)
    · have k := k.2 q
      refine sp_iload 107 rfl rfl rfl ?_
      refine sp_iload 109 rfl rfl rfl ?_
      refine sp_iadd 110 rfl rfl ?_
      refine sp_iload_n 111 rfl rfl rfl ?_
      have n7_ := k.1
      have k := k.2
      refine sp_irem 112 rfl n7_ rfl ?_
      refine sp_istore 114 rfl rfl rfl ?_
      refine sp_goto rfl ?_
      exact k
    · have k := k.1 q
      refine sp_goto rfl ?_
      refine sp_iload 119 rfl rfl rfl ?_
      refine sp_aload_n 120 rfl rfl rfl ?_
      refine hq_getR 123 rfl rfl rfl rfl ?_
      refine sp_iload 125 rfl rfl rfl ?_
      refine sp_iconst 126 rfl rfl ?_
      refine sp_isub 127 rfl rfl ?_
      have n8_ := k.1
      have k := k.2
      refine hq_iald 128 rfl rfl n8_ rfl ?_
      refine sp_ic_eq 131 rfl rfl (fun q => ?_) (fun q => ?_)
      · have k := k.1 q
        refine sp_aload_n 134 rfl rfl rfl ?_
        refine hq_getR 137 rfl rfl rfl rfl ?_
        refine sp_iload 139 rfl rfl rfl ?_
        refine sp_iconst 140 rfl rfl ?_
        refine hq_zast 141 rfl rfl n6_ (by decide) rfl ?_
        refine sp_iinc 144 rfl rfl rfl rfl ?_
        refine sp_iload 146 rfl rfl rfl ?_
        refine sp_istore 148 rfl rfl rfl ?_
        refine sp_iload 150 rfl rfl rfl ?_
        refine sp_if_le 153 rfl rfl (fun q => ?_) (fun q => ?_)
        · have k := k.1 q
          refine sp_iinc 179 rfl rfl rfl rfl ?_
          refine sp_goto rfl ?_
          refine st_wk (L1 := [some (.ref 65), some (.int v1), some (.int v2), some (.int v3), some (.int v4), some (.int (v5 + Int32.ofInt (-1))), some (.int v6), some (.int v10), some (.int (v8 + Int32.ofInt 1)), none, none]) ⟨.inr rfl, .inr rfl, .inr rfl, .inr rfl, .inr rfl, .inr rfl, .inr rfl, .inr rfl, .inr rfl, .inl rfl, .inl rfl, trivial⟩ ?_
          exact k
        · have k := k.2 q
          refine sp_iload 155 rfl rfl rfl ?_
          refine sp_iload 157 rfl rfl rfl ?_
          have n9_ := k.1
          have k := k.2
          refine sp_irem 158 rfl n9_ rfl ?_
          refine sp_if_ne 161 rfl rfl (fun q => ?_) (fun q => ?_)
          · have k := k.2 q
            refine sp_iinc 179 rfl rfl rfl rfl ?_
            refine sp_goto rfl ?_
            refine st_wk (L1 := [some (.ref 65), some (.int v1), some (.int v2), some (.int v3), some (.int v4), some (.int (v5 + Int32.ofInt (-1))), some (.int v6), some (.int v10), some (.int (v8 + Int32.ofInt 1)), none, none]) ⟨.inr rfl, .inr rfl, .inr rfl, .inr rfl, .inr rfl, .inr rfl, .inr rfl, .inr rfl, .inr rfl, .inl rfl, .inl rfl, trivial⟩ ?_
            exact k
          · have k := k.1 q
            refine sp_iload 163 rfl rfl rfl ?_
            refine sp_iconst 164 rfl rfl ?_
            refine sp_ic_ne 167 rfl rfl (fun q => ?_) (fun q => ?_)
            · have k := k.2 q
              refine sp_iconst 174 rfl rfl ?_
              refine sp_istore 176 rfl rfl rfl ?_
              refine sp_iinc 179 rfl rfl rfl rfl ?_
              refine sp_goto rfl ?_
              refine st_wk (L1 := [some (.ref 65), some (.int v1), some (.int v2), some (.int v3), some (.int v4), some (.int (v5 + Int32.ofInt (-1))), some (.int (Int32.ofInt 1)), some (.int v10), some (.int (v8 + Int32.ofInt 1)), none, none]) ⟨.inr rfl, .inr rfl, .inr rfl, .inr rfl, .inr rfl, .inr rfl, .inr rfl, .inr rfl, .inr rfl, .inl rfl, .inl rfl, trivial⟩ ?_
              exact k
            · have k := k.1 q
              refine sp_iload_n 168 rfl rfl rfl ?_
              refine sp_iconst 169 rfl rfl ?_
              refine sp_isub 170 rfl rfl ?_
              refine sp_goto rfl ?_
              refine sp_istore 176 rfl rfl rfl ?_
              refine sp_iinc 179 rfl rfl rfl rfl ?_
              refine sp_goto rfl ?_
              refine st_wk (L1 := [some (.ref 65), some (.int v1), some (.int v2), some (.int v3), some (.int v4), some (.int (v5 + Int32.ofInt (-1))), some (.int (v1 - (Int32.ofInt 1))), some (.int v10), some (.int (v8 + Int32.ofInt 1)), none, none]) ⟨.inr rfl, .inr rfl, .inr rfl, .inr rfl, .inr rfl, .inr rfl, .inr rfl, .inr rfl, .inr rfl, .inl rfl, .inl rfl, trivial⟩ ?_
              exact k
      · have k := k.2 q
        refine sp_iconst 132 rfl rfl ?_
        exact st_zret rfl rfl (by decide) (Nat.le_refl _) (Nat.le_refl _) k
  · have k := k.2 q
    refine sp_iinc 97 rfl rfl rfl rfl ?_
    refine sp_iload 99 rfl rfl rfl ?_
    refine sp_if_ne 102 rfl rfl (fun q => ?_) (fun q => ?_)
    · have k := k.2 q
      refine sp_iload 107 rfl rfl rfl ?_
      refine sp_iload 109 rfl rfl rfl ?_
      refine sp_iadd 110 rfl rfl ?_
      refine sp_iload_n 111 rfl rfl rfl ?_
      have n10_ := k.1
      have k := k.2
      refine sp_irem 112 rfl n10_ rfl ?_
      refine sp_istore 114 rfl rfl rfl ?_
      refine sp_goto rfl ?_
      exact k
    · have k := k.1 q
      refine sp_goto rfl ?_
      refine sp_iload 119 rfl rfl rfl ?_
      refine sp_aload_n 120 rfl rfl rfl ?_
      refine hq_getR 123 rfl rfl rfl rfl ?_
      refine sp_iload 125 rfl rfl rfl ?_
      refine sp_iconst 126 rfl rfl ?_
      refine sp_isub 127 rfl rfl ?_
      have n11_ := k.1
      have k := k.2
      refine hq_iald 128 rfl rfl n11_ rfl ?_
      refine sp_ic_eq 131 rfl rfl (fun q => ?_) (fun q => ?_)
      · have k := k.1 q
        refine sp_aload_n 134 rfl rfl rfl ?_
        refine hq_getR 137 rfl rfl rfl rfl ?_
        refine sp_iload 139 rfl rfl rfl ?_
        refine sp_iconst 140 rfl rfl ?_
        refine hq_zast 141 rfl rfl n6_ (by decide) rfl ?_
        refine sp_iinc 144 rfl rfl rfl rfl ?_
        refine sp_iload 146 rfl rfl rfl ?_
        refine sp_istore 148 rfl rfl rfl ?_
        refine sp_iload 150 rfl rfl rfl ?_
        refine sp_if_le 153 rfl rfl (fun q => ?_) (fun q => ?_)
        · have k := k.1 q
          refine sp_iinc 179 rfl rfl rfl rfl ?_
          refine sp_goto rfl ?_
          refine st_wk (L1 := [some (.ref 65), some (.int v1), some (.int v2), some (.int v3), some (.int v4), some (.int (v5 + Int32.ofInt (-1))), some (.int v6), some (.int v10), some (.int (v8 + Int32.ofInt 1)), none, none]) ⟨.inr rfl, .inr rfl, .inr rfl, .inr rfl, .inr rfl, .inr rfl, .inr rfl, .inr rfl, .inr rfl, .inl rfl, .inl rfl, trivial⟩ ?_
          exact k
        · have k := k.2 q
          refine sp_iload 155 rfl rfl rfl ?_
          refine sp_iload 157 rfl rfl rfl ?_
          have n12_ := k.1
          have k := k.2
          refine sp_irem 158 rfl n12_ rfl ?_
          refine sp_if_ne 161 rfl rfl (fun q => ?_) (fun q => ?_)
          · have k := k.2 q
            refine sp_iinc 179 rfl rfl rfl rfl ?_
            refine sp_goto rfl ?_
            refine st_wk (L1 := [some (.ref 65), some (.int v1), some (.int v2), some (.int v3), some (.int v4), some (.int (v5 + Int32.ofInt (-1))), some (.int v6), some (.int v10), some (.int (v8 + Int32.ofInt 1)), none, none]) ⟨.inr rfl, .inr rfl, .inr rfl, .inr rfl, .inr rfl, .inr rfl, .inr rfl, .inr rfl, .inr rfl, .inl rfl, .inl rfl, trivial⟩ ?_
            exact k
          · have k := k.1 q
            refine sp_iload 163 rfl rfl rfl ?_
            refine sp_iconst 164 rfl rfl ?_
            refine sp_ic_ne 167 rfl rfl (fun q => ?_) (fun q => ?_)
            · have k := k.2 q
              refine sp_iconst 174 rfl rfl ?_
              refine sp_istore 176 rfl rfl rfl ?_
              refine sp_iinc 179 rfl rfl rfl rfl ?_
              refine sp_goto rfl ?_
              refine st_wk (L1 := [some (.ref 65), some (.int v1), some (.int v2), some (.int v3), some (.int v4), some (.int (v5 + Int32.ofInt (-1))), some (.int (Int32.ofInt 1)), some (.int v10), some (.int (v8 + Int32.ofInt 1)), none, none]) ⟨.inr rfl, .inr rfl, .inr rfl, .inr rfl, .inr rfl, .inr rfl, .inr rfl, .inr rfl, .inr rfl, .inl rfl, .inl rfl, trivial⟩ ?_
              exact k
            · have k := k.1 q
              refine sp_iload_n 168 rfl rfl rfl ?_
              refine sp_iconst 169 rfl rfl ?_
              refine sp_isub 170 rfl rfl ?_
              refine sp_goto rfl ?_
              refine sp_istore 176 rfl rfl rfl ?_
              refine sp_iinc 179 rfl rfl rfl rfl ?_
              refine sp_goto rfl ?_
              refine st_wk (L1 := [some (.ref 65), some (.int v1), some (.int v2), some (.int v3), some (.int v4), some (.int (v5 + Int32.ofInt (-1))), some (.int (v1 - (Int32.ofInt 1))), some (.int v10), some (.int (v8 + Int32.ofInt 1)), none, none]) ⟨.inr rfl, .inr rfl, .inr rfl, .inr rfl, .inr rfl, .inr rfl, .inr rfl, .inr rfl, .inr rfl, .inl rfl, .inl rfl, trivial⟩ ?_
              exact k
      · have k := k.2 q
        refine sp_iconst 132 rfl rfl ?_
        exact st_zret rfl rfl (by decide) (Nat.le_refl _) (Nat.le_refl _) k
def w_X11_lastOf_4 (SL : Nat) (xs : Nat → Int32) (d : Nat) (p s q : Nat) (Q : Option Value → mm_H → Prop) (v0 : Int32) (v1 : Int32) (v2 : Int32) (v3 : Int32) (I : Nat → Nat → Int32) (J : Nat → Nat → Int64) : Prop := mm_w SL xs (mm_s SL xs (d + 0)) mm_am kX11_lastOf 0 0 (some .int) Q 4 [some (.int v0), some (.int v1), some (.int v2), some (.int v3)] [] (hp p s q I J) 0 0
theorem sg_X11_lastOf {SL : Nat} {xs : Nat → Int32} {d : Nat} {p s q : Nat} {Q : Option Value → mm_H → Prop} {a0 : Int32} {a1 : Int32} {I : Nat → Nat → Int32} {J : Nat → Nat → Int64}  (k : w_X11_lastOf_4 SL xs d p s q Q a0 a1 (Int32.ofInt 0) (Int32.ofInt 2) I J) : mm_s SL xs (d + 1) 248 [.int a0, .int a1] (hp p s q I J) Q := by
  refine e_X11_lastOf rfl ?_
  refine sp_iconst 1 rfl rfl ?_
  refine sp_istore_n 2 rfl rfl rfl ?_
  refine sp_iconst 3 rfl rfl ?_
  refine sp_istore_n 4 rfl rfl rfl ?_
  exact k
theorem sg_X11_lastOf_4 {SL : Nat} {xs : Nat → Int32} {d : Nat} {p s q : Nat} {Q : Option Value → mm_H → Prop} {v0 : Int32} {v1 : Int32} {v2 : Int32} {v3 : Int32} {I : Nat → Nat → Int32} {J : Nat → Nat → Int64}  (k : ((v0 < v3 → Q (some (.int v2)) (hp p s q I J)) ∧ (¬ (v0 < v3) → (¬ v3 = 0 ∧ w_X11_lastOf_4 SL xs d p s q Q v0 v1 ((v2 + v1) - (v2 + v1) / v3 * v3) (v3 + Int32.ofInt 1) I J)))) : w_X11_lastOf_4 SL xs d p s q Q v0 v1 v2 v3 I J := by
  unfold w_X11_lastOf_4
  refine sp_iload_n 5 rfl rfl rfl ?_
  refine sp_iload_n 6 rfl rfl rfl ?_
  refine sp_ic_gt 9 rfl rfl (fun q => ?_) (fun q => ?_)
  · have k := k.1 q
    refine sp_iload_n 22 rfl rfl rfl ?_
    exact st_iret rfl rfl (Nat.le_refl _) (Nat.le_refl _) k
  · have k := k.2 q
    refine sp_iload_n 10 rfl rfl rfl ?_
    refine sp_iload_n 11 rfl rfl rfl ?_
    refine sp_iadd 12 rfl rfl ?_
    refine sp_iload_n 13 rfl rfl rfl ?_
    have n1_ := k.1
    have k := k.2
    refine sp_irem 14 rfl n1_ rfl ?_
    refine sp_istore_n 15 rfl rfl rfl ?_
    refine sp_iinc 18 rfl rfl rfl rfl ?_
    refine sp_goto rfl ?_
    exact k
def w_X11_allWeight_4 (SL : Nat) (xs : Nat → Int32) (d : Nat) (p s q : Nat) (Q : Option Value → mm_H → Prop) (v1 : Int32) (v2 : Int32) (I : Nat → Nat → Int32) (J : Nat → Nat → Int64) : Prop := mm_w SL xs (mm_s SL xs (d + 0)) mm_am kX11_allWeight 0 0 (some .int) Q 4 [some (.ref 65), some (.int v1), some (.int v2)] [] (hp p s q I J) 0 0
theorem sg_X11_allWeight {SL : Nat} {xs : Nat → Int32} {d : Nat} {p s q : Nat} {Q : Option Value → mm_H → Prop}  {I : Nat → Nat → Int32} {J : Nat → Nat → Int64}  (k : w_X11_allWeight_4 SL xs d p s q Q (Int32.ofInt 0) (Int32.ofInt 0) I J) : mm_s SL xs (d + 1) 254 [.ref 65] (hp p s q I J) Q := by
  refine e_X11_allWeight rfl ?_
  refine sp_iconst 1 rfl rfl ?_
  refine sp_istore_n 2 rfl rfl rfl ?_
  refine sp_iconst 3 rfl rfl ?_
  refine sp_istore_n 4 rfl rfl rfl ?_
  exact k
theorem sg_X11_allWeight_4 {SL : Nat} {xs : Nat → Int32} {d : Nat} {p s q : Nat} {Q : Option Value → mm_H → Prop} {v1 : Int32} {v2 : Int32} {I : Nat → Nat → Int32} {J : Nat → Nat → Int64}  (k : (((I 65 44) ≤ v2 → Q (some (.int v1)) (hp p s q I J)) ∧ (¬ ((I 65 44) ≤ v2) → (vp_in v2 12 ∧ w_X11_allWeight_4 SL xs d p s q Q (v1 + (I 84 ((v2).toNatClampNeg))) (v2 + Int32.ofInt 1) I J)))) : w_X11_allWeight_4 SL xs d p s q Q v1 v2 I J := by
  unfold w_X11_allWeight_4
  refine sp_iload_n 5 rfl rfl rfl ?_
  refine sp_aload_n 6 rfl rfl rfl ?_
  refine hq_getI 9 rfl rfl rfl ?_
  refine sp_ic_ge 12 rfl rfl (fun q => ?_) (fun q => ?_)
  · have k := k.1 q
    refine sp_iload_n 28 rfl rfl rfl ?_
    exact st_iret rfl rfl (Nat.le_refl _) (Nat.le_refl _) k
  · have k := k.2 q
    refine sp_iload_n 13 rfl rfl rfl ?_
    refine sp_aload_n 14 rfl rfl rfl ?_
    refine hq_getR 17 rfl rfl rfl rfl ?_
    refine sp_iload_n 18 rfl rfl rfl ?_
    have n1_ := k.1
    have k := k.2
    refine hq_iald 19 rfl rfl n1_ rfl ?_
    refine sp_iadd 20 rfl rfl ?_
    refine sp_istore_n 21 rfl rfl rfl ?_
    refine sp_iinc 24 rfl rfl rfl rfl ?_
    refine sp_goto rfl ?_
    exact k
theorem sg_X11_untell {SL : Nat} {xs : Nat → Int32} {d : Nat} {p s q : Nat} {Q : Option Value → mm_H → Prop} {a0 : Int32} {I : Nat → Nat → Int32} {J : Nat → Nat → Int64}  (k : ((a0 < Int32.ofInt 0 → Q (some (.int (Int32.ofInt 0))) (hp p s q I J)) ∧ (¬ (a0 < Int32.ofInt 0) → (((I 65 88) ≤ a0 → Q (some (.int (Int32.ofInt 0))) (hp p s q I J)) ∧ (¬ ((I 65 88) ≤ a0) → (vp_in a0 40 ∧ (((I 104 ((a0).toNatClampNeg)) < Int32.ofInt 0 → Q (some (.int (Int32.ofInt 1))) (hp p s q (mm_u I 104 ((a0).toNatClampNeg) (I 65 89)) J)) ∧ (¬ ((I 104 ((a0).toNatClampNeg)) < Int32.ofInt 0) → Q (some (.int (Int32.ofInt 0))) (hp p s q I J))))))))) : mm_s SL xs (d + 1) 263 [.ref 65, .int a0] (hp p s q I J) Q := by
  refine e_X11_untell rfl ?_
  refine sp_iload_n 1 rfl rfl rfl ?_
  refine sp_if_lt 4 rfl rfl (fun q => ?_) (fun q => ?_)
  · have k := k.1 q
    refine sp_iconst 22 rfl rfl ?_
    exact st_zret rfl rfl (by decide) (Nat.le_refl _) (Nat.le_refl _) k
  · have k := k.2 q
    refine sp_iload_n 5 rfl rfl rfl ?_
    refine sp_aload_n 6 rfl rfl rfl ?_
    refine hq_getI 9 rfl rfl rfl ?_
    refine sp_ic_ge 12 rfl rfl (fun q => ?_) (fun q => ?_)
    · have k := k.1 q
      refine sp_iconst 22 rfl rfl ?_
      exact st_zret rfl rfl (by decide) (Nat.le_refl _) (Nat.le_refl _) k
    · have k := k.2 q
      refine sp_aload_n 13 rfl rfl rfl ?_
      refine hq_getR 16 rfl rfl rfl rfl ?_
      refine sp_iload_n 17 rfl rfl rfl ?_
      have n1_ := k.1
      have k := k.2
      refine hq_iald 18 rfl rfl n1_ rfl ?_
      refine sp_if_lt 21 rfl rfl (fun q => ?_) (fun q => ?_)
      · have k := k.1 q
        refine sp_aload_n 24 rfl rfl rfl ?_
        refine hq_getR 27 rfl rfl rfl rfl ?_
        refine sp_iload_n 28 rfl rfl rfl ?_
        refine sp_aload_n 29 rfl rfl rfl ?_
        refine hq_getI 32 rfl rfl rfl ?_
        refine hq_iast 33 rfl rfl n1_ rfl ?_
        refine sp_iconst 34 rfl rfl ?_
        exact st_zret rfl rfl (by decide) (Nat.le_refl _) (Nat.le_refl _) k
      · have k := k.2 q
        refine sp_iconst 22 rfl rfl ?_
        exact st_zret rfl rfl (by decide) (Nat.le_refl _) (Nat.le_refl _) k
theorem sg_X11_later {SL : Nat} {xs : Nat → Int32} {d : Nat} {p s q : Nat} {Q : Option Value → mm_H → Prop} {a0 : Int32} {I : Nat → Nat → Int32} {J : Nat → Nat → Int64}  (k : ((a0 < Int32.ofInt 0 → Q (some (.int (Int32.ofInt (-1)))) (hp p s q I J)) ∧ (¬ (a0 < Int32.ofInt 0) → (((Int32.ofInt 1000) < a0 → Q (some (.int (Int32.ofInt (-1)))) (hp p s q I J)) ∧ (¬ ((Int32.ofInt 1000) < a0) → ((((I 65 89) + a0) ≤ (Int32.ofInt 100000) → Q (some (.int ((I 65 89) + a0))) (hp p s q (mm_u I 65 89 ((I 65 89) + a0)) J)) ∧ (¬ (((I 65 89) + a0) ≤ (Int32.ofInt 100000)) → Q (some (.int (Int32.ofInt (-1)))) (hp p s q I J)))))))) : mm_s SL xs (d + 1) 264 [.ref 65, .int a0] (hp p s q I J) Q := by
  refine e_X11_later rfl ?_
  refine sp_iload_n 1 rfl rfl rfl ?_
  refine sp_if_lt 4 rfl rfl (fun q => ?_) (fun q => ?_)
  · have k := k.1 q
    refine sp_iconst 24 rfl rfl ?_
    exact st_iret rfl rfl (Nat.le_refl _) (Nat.le_refl _) k
  · have k := k.2 q
    refine sp_iload_n 5 rfl rfl rfl ?_
    refine sp_sipush 8 rfl rfl ?_
    refine sp_I (y := Int32.ofInt 1000) rfl ?_
    refine sp_ic_gt 11 rfl rfl (fun q => ?_) (fun q => ?_)
    · have k := k.1 q
      refine sp_iconst 24 rfl rfl ?_
      exact st_iret rfl rfl (Nat.le_refl _) (Nat.le_refl _) k
    · have k := k.2 q
      refine sp_aload_n 12 rfl rfl rfl ?_
      refine hq_getI 15 rfl rfl rfl ?_
      refine sp_iload_n 16 rfl rfl rfl ?_
      refine sp_iadd 17 rfl rfl ?_
      refine sp_ldcw 20 rfl rfl ?_
      refine sp_ic_le 23 rfl rfl (fun q => ?_) (fun q => ?_)
      · have k := k.1 q
        refine sp_aload_n 26 rfl rfl rfl ?_
        refine sp_dup 27 rfl rfl rfl ?_
        refine hq_getI 30 rfl rfl rfl ?_
        refine sp_iload_n 31 rfl rfl rfl ?_
        refine sp_iadd 32 rfl rfl ?_
        refine hq_putI 35 rfl rfl rfl ?_
        refine sp_aload_n 36 rfl rfl rfl ?_
        refine hq_getI 39 rfl rfl rfl ?_
        refine sp_I (y := ((I 65 89) + a0)) (by simp [mm_u]) ?_
        exact st_iret rfl rfl (Nat.le_refl _) (Nat.le_refl _) k
      · have k := k.2 q
        refine sp_iconst 24 rfl rfl ?_
        exact st_iret rfl rfl (Nat.le_refl _) (Nat.le_refl _) k
theorem sg_X11_counts {SL : Nat} {xs : Nat → Int32} {d : Nat} {p s q : Nat} {Q : Option Value → mm_H → Prop} {a0 : Int32} {a1 : Int32} {I : Nat → Nat → Int32} {J : Nat → Nat → Int64}  (k : (vp_in a0 40 ∧ ((a1 < (I 103 ((a0).toNatClampNeg)) → Q (some (.int (Int32.ofInt 0))) (hp p s q I J)) ∧ (¬ (a1 < (I 103 ((a0).toNatClampNeg))) → (((I 104 ((a0).toNatClampNeg)) < Int32.ofInt 0 → Q (some (.int (Int32.ofInt 1))) (hp p s q I J)) ∧ (¬ ((I 104 ((a0).toNatClampNeg)) < Int32.ofInt 0) → (((I 104 ((a0).toNatClampNeg)) ≤ a1 → Q (some (.int (Int32.ofInt 0))) (hp p s q I J)) ∧ (¬ ((I 104 ((a0).toNatClampNeg)) ≤ a1) → Q (some (.int (Int32.ofInt 1))) (hp p s q I J))))))))) : mm_s SL xs (d + 1) 265 [.ref 65, .int a0, .int a1] (hp p s q I J) Q := by
  refine e_X11_counts rfl ?_
  refine sp_aload_n 1 rfl rfl rfl ?_
  refine hq_getR 4 rfl rfl rfl rfl ?_
  refine sp_iload_n 5 rfl rfl rfl ?_
  have n1_ := k.1
  have k := k.2
  refine hq_iald 6 rfl rfl n1_ rfl ?_
  refine sp_iload_n 7 rfl rfl rfl ?_
  refine sp_ic_gt 10 rfl rfl (fun q => ?_) (fun q => ?_)
  · have k := k.1 q
    refine sp_iconst 34 rfl rfl ?_
    exact st_zret rfl rfl (by decide) (Nat.le_refl _) (Nat.le_refl _) k
  · have k := k.2 q
    refine sp_aload_n 11 rfl rfl rfl ?_
    refine hq_getR 14 rfl rfl rfl rfl ?_
    refine sp_iload_n 15 rfl rfl rfl ?_
    refine hq_iald 16 rfl rfl n1_ rfl ?_
    refine sp_if_lt 19 rfl rfl (fun q => ?_) (fun q => ?_)
    · have k := k.1 q
      refine sp_iconst 30 rfl rfl ?_
      refine sp_goto rfl ?_
      exact st_zret rfl rfl (by decide) (Nat.le_refl _) (Nat.le_refl _) k
    · have k := k.2 q
      refine sp_aload_n 20 rfl rfl rfl ?_
      refine hq_getR 23 rfl rfl rfl rfl ?_
      refine sp_iload_n 24 rfl rfl rfl ?_
      refine hq_iald 25 rfl rfl n1_ rfl ?_
      refine sp_iload_n 26 rfl rfl rfl ?_
      refine sp_ic_le 29 rfl rfl (fun q => ?_) (fun q => ?_)
      · have k := k.1 q
        refine sp_iconst 34 rfl rfl ?_
        exact st_zret rfl rfl (by decide) (Nat.le_refl _) (Nat.le_refl _) k
      · have k := k.2 q
        refine sp_iconst 30 rfl rfl ?_
        refine sp_goto rfl ?_
        exact st_zret rfl rfl (by decide) (Nat.le_refl _) (Nat.le_refl _) k
theorem sg_X11_about {SL : Nat} {xs : Nat → Int32} {d : Nat} {p s q : Nat} {Q : Option Value → mm_H → Prop} {a0 : Int32} {I : Nat → Nat → Int32} {J : Nat → Nat → Int64}  (k : ((a0 = Int32.ofInt 0 → Q (some (.int (I 65 47))) (hp p s q I J)) ∧ (a0 = Int32.ofInt 1 → Q (some (.int (I 65 59))) (hp p s q I J)) ∧ (a0 = Int32.ofInt 2 → Q (some (.int (I 65 60))) (hp p s q I J)) ∧ (a0 = Int32.ofInt 3 → Q (some (.int (I 65 43))) (hp p s q I J)) ∧ (a0 = Int32.ofInt 4 → Q (some (.int (I 65 44))) (hp p s q I J)) ∧ (a0 = Int32.ofInt 5 → Q (some (.int (I 65 88))) (hp p s q I J)) ∧ (a0 = Int32.ofInt 6 → Q (some (.int (I 65 89))) (hp p s q I J)) ∧ (a0 = Int32.ofInt 7 → Q (some (.int (I 65 1))) (hp p s q I J)) ∧ (a0 = Int32.ofInt 8 → Q (some (.int (I 65 80))) (hp p s q I J)) ∧ (a0 = Int32.ofInt 9 → Q (some (.int (I 65 21))) (hp p s q I J)) ∧ (a0 = Int32.ofInt 10 → (vp_in (Int32.ofInt 0) 2 ∧ Q (some (.int (I 90 (((Int32.ofInt 0)).toNatClampNeg)))) (hp p s q I J))) ∧ (a0 = Int32.ofInt 11 → (vp_in (Int32.ofInt 1) 2 ∧ Q (some (.int (I 90 (((Int32.ofInt 1)).toNatClampNeg)))) (hp p s q I J))) ∧ (a0 = Int32.ofInt 12 → (((I 65 64) = Int32.ofInt 0 → Q (some (.int (Int32.ofInt 0))) (hp p s q I J)) ∧ (¬ ((I 65 64) = Int32.ofInt 0) → Q (some (.int (Int32.ofInt 1))) (hp p s q I J)))) ∧ (¬ a0 = Int32.ofInt 0 → ¬ a0 = Int32.ofInt 1 → ¬ a0 = Int32.ofInt 2 → ¬ a0 = Int32.ofInt 3 → ¬ a0 = Int32.ofInt 4 → ¬ a0 = Int32.ofInt 5 → ¬ a0 = Int32.ofInt 6 → ¬ a0 = Int32.ofInt 7 → ¬ a0 = Int32.ofInt 8 → ¬ a0 = Int32.ofInt 9 → ¬ a0 = Int32.ofInt 10 → ¬ a0 = Int32.ofInt 11 → ¬ a0 = Int32.ofInt 12 → Q (some (.int (Int32.ofInt (-1)))) (hp p s q I J)))) : mm_s SL xs (d + 1) 273 [.ref 65, .int a0] (hp p s q I J) Q := by
  refine e_X11_about rfl ?_
  refine sp_iload_n 1 rfl rfl rfl ?_
  by_cases q1_0 : a0 = Int32.ofInt 0
  · have k := k.1 q1_0
    refine sp_table (t := 68) rfl (by rw [q1_0]; rfl) ?_
    refine sp_aload_n 69 rfl rfl rfl ?_
    refine hq_getI 72 rfl rfl rfl ?_
    exact st_iret rfl rfl (Nat.le_refl _) (Nat.le_refl _) k
  · skip
    by_cases q1_1 : a0 = Int32.ofInt 1
    · have k := k.2.1 q1_1
      refine sp_table (t := 73) rfl (by rw [q1_1]; rfl) ?_
      refine sp_aload_n 74 rfl rfl rfl ?_
      refine hq_getI 77 rfl rfl rfl ?_
      exact st_iret rfl rfl (Nat.le_refl _) (Nat.le_refl _) k
    · skip
      by_cases q1_2 : a0 = Int32.ofInt 2
      · have k := k.2.2.1 q1_2
        refine sp_table (t := 78) rfl (by rw [q1_2]; rfl) ?_
        refine sp_aload_n 79 rfl rfl rfl ?_
        refine hq_getI 82 rfl rfl rfl ?_
        exact st_iret rfl rfl (Nat.le_refl _) (Nat.le_refl _) k
      · skip
        by_cases q1_3 : a0 = Int32.ofInt 3
        · have k := k.2.2.2.1 q1_3
          refine sp_table (t := 83) rfl (by rw [q1_3]; rfl) ?_
          refine sp_aload_n 84 rfl rfl rfl ?_
          refine hq_getI 87 rfl rfl rfl ?_
          exact st_iret rfl rfl (Nat.le_refl _) (Nat.le_refl _) k
        · skip
          by_cases q1_4 : a0 = Int32.ofInt 4
          · have k := k.2.2.2.2.1 q1_4
            refine sp_table (t := 88) rfl (by rw [q1_4]; rfl) ?_
            refine sp_aload_n 89 rfl rfl rfl ?_
            refine hq_getI 92 rfl rfl rfl ?_
            exact st_iret rfl rfl (Nat.le_refl _) (Nat.le_refl _) k
          · skip
            by_cases q1_5 : a0 = Int32.ofInt 5
            · have k := k.2.2.2.2.2.1 q1_5
              refine sp_table (t := 93) rfl (by rw [q1_5]; rfl) ?_
              refine sp_aload_n 94 rfl rfl rfl ?_
              refine hq_getI 97 rfl rfl rfl ?_
              exact st_iret rfl rfl (Nat.le_refl _) (Nat.le_refl _) k
            · skip
              by_cases q1_6 : a0 = Int32.ofInt 6
              · have k := k.2.2.2.2.2.2.1 q1_6
                refine sp_table (t := 98) rfl (by rw [q1_6]; rfl) ?_
                refine sp_aload_n 99 rfl rfl rfl ?_
                refine hq_getI 102 rfl rfl rfl ?_
                exact st_iret rfl rfl (Nat.le_refl _) (Nat.le_refl _) k
              · skip
                by_cases q1_7 : a0 = Int32.ofInt 7
                · have k := k.2.2.2.2.2.2.2.1 q1_7
                  refine sp_table (t := 103) rfl (by rw [q1_7]; rfl) ?_
                  refine sp_aload_n 104 rfl rfl rfl ?_
                  refine hq_getI 107 rfl rfl rfl ?_
                  exact st_iret rfl rfl (Nat.le_refl _) (Nat.le_refl _) k
                · skip
                  by_cases q1_8 : a0 = Int32.ofInt 8
                  · have k := k.2.2.2.2.2.2.2.2.1 q1_8
                    refine sp_table (t := 108) rfl (by rw [q1_8]; rfl) ?_
                    refine sp_aload_n 109 rfl rfl rfl ?_
                    refine hq_getI 112 rfl rfl rfl ?_
                    exact st_iret rfl rfl (Nat.le_refl _) (Nat.le_refl _) k
                  · skip
                    by_cases q1_9 : a0 = Int32.ofInt 9
                    · have k := k.2.2.2.2.2.2.2.2.2.1 q1_9
                      refine sp_table (t := 113) rfl (by rw [q1_9]; rfl) ?_
                      refine sp_aload_n 114 rfl rfl rfl ?_
                      refine hq_getI 117 rfl rfl rfl ?_
                      exact st_iret rfl rfl (Nat.le_refl _) (Nat.le_refl _) k
                    · skip
                      by_cases q1_10 : a0 = Int32.ofInt 10
                      · have k := k.2.2.2.2.2.2.2.2.2.2.1 q1_10
                        refine sp_table (t := 118) rfl (by rw [q1_10]; rfl) ?_
                        refine sp_aload_n 119 rfl rfl rfl ?_
                        refine hq_getR 122 rfl rfl rfl rfl ?_
                        refine sp_iconst 123 rfl rfl ?_
                        have n1_ := k.1
                        have k := k.2
                        refine hq_iald 124 rfl rfl n1_ rfl ?_
                        exact st_iret rfl rfl (Nat.le_refl _) (Nat.le_refl _) k
                      · skip
                        by_cases q1_11 : a0 = Int32.ofInt 11
                        · have k := k.2.2.2.2.2.2.2.2.2.2.2.1 q1_11
                          refine sp_table (t := 125) rfl (by rw [q1_11]; rfl) ?_
                          refine sp_aload_n 126 rfl rfl rfl ?_
                          refine hq_getR 129 rfl rfl rfl rfl ?_
                          refine sp_iconst 130 rfl rfl ?_
                          have n2_ := k.1
                          have k := k.2
                          refine hq_iald 131 rfl rfl n2_ rfl ?_
                          exact st_iret rfl rfl (Nat.le_refl _) (Nat.le_refl _) k
                        · skip
                          by_cases q1_12 : a0 = Int32.ofInt 12
                          · have k := k.2.2.2.2.2.2.2.2.2.2.2.2.1 q1_12
                            refine sp_table (t := 132) rfl (by rw [q1_12]; rfl) ?_
                            refine sp_aload_n 133 rfl rfl rfl ?_
                            refine hq_getI 136 rfl rfl rfl ?_
                            refine sp_if_eq 139 rfl rfl (fun q => ?_) (fun q => ?_)
                            · have k := k.1 q
                              refine sp_iconst 144 rfl rfl ?_
                              exact st_iret rfl rfl (Nat.le_refl _) (Nat.le_refl _) k
                            · have k := k.2 q
                              refine sp_iconst 140 rfl rfl ?_
                              refine sp_goto rfl ?_
                              exact st_iret rfl rfl (Nat.le_refl _) (Nat.le_refl _) k
                          · skip
                            have k := k.2.2.2.2.2.2.2.2.2.2.2.2.2 q1_0 q1_1 q1_2 q1_3 q1_4 q1_5 q1_6 q1_7 q1_8 q1_9 q1_10 q1_11 q1_12
                            refine sp_table (t := 145) rfl (by unfold mm_tab; rw [if_pos (by have := tb_ne q1_0; have := tb_ne q1_1; have := tb_ne q1_2; have := tb_ne q1_3; have := tb_ne q1_4; have := tb_ne q1_5; have := tb_ne q1_6; have := tb_ne q1_7; have := tb_ne q1_8; have := tb_ne q1_9; have := tb_ne q1_10; have := tb_ne q1_11; have := tb_ne q1_12; omega)]; rfl) ?_
                            refine sp_iconst 146 rfl rfl ?_
                            exact st_iret rfl rfl (Nat.le_refl _) (Nat.le_refl _) k
theorem sg_X11_feed {SL : Nat} {xs : Nat → Int32} {d : Nat} {p s q : Nat} {Q : Option Value → mm_H → Prop} {a0 : Int32} {a1 : Int32} {a2 : Int32} {a3 : Int32} {a4 : Int32} {I : Nat → Nat → Int32} {J : Nat → Nat → Int64}  (k : ((((I 65 1) + (Int32.ofInt 20)) ≤ (Int32.ofInt 1200) → (mm_s SL xs (d + 1) 166 [.ref 65, .int a0] (hp p s q I J) (fun r_ h_ => ∃ I1 J1, r_ = none ∧ h_ = hp p s q I1 J1 ∧ (mm_s SL xs (d + 1) 166 [.ref 65, .int a1] (hp p s q I1 J1) (fun r_ h_ => ∃ I2 J2, r_ = none ∧ h_ = hp p s q I2 J2 ∧ (mm_s SL xs (d + 1) 166 [.ref 65, .int a2] (hp p s q I2 J2) (fun r_ h_ => ∃ I3 J3, r_ = none ∧ h_ = hp p s q I3 J3 ∧ (mm_s SL xs (d + 1) 166 [.ref 65, .int a3] (hp p s q I3 J3) (fun r_ h_ => ∃ I4 J4, r_ = none ∧ h_ = hp p s q I4 J4 ∧ (mm_s SL xs (d + 1) 166 [.ref 65, .int a4] (hp p s q I4 J4) (fun r_ h_ => ∃ I5 J5, r_ = none ∧ h_ = hp p s q I5 J5 ∧ Q (some (.int (I5 65 1))) (hp p s q I5 J5)))))))))))) ∧ (¬ (((I 65 1) + (Int32.ofInt 20)) ≤ (Int32.ofInt 1200)) → Q (some (.int (Int32.ofInt (-1)))) (hp p s q I J)))) : mm_s SL xs (d + 2) 165 [.ref 65, .int a0, .int a1, .int a2, .int a3, .int a4] (hp p s q I J) Q := by
  refine e_X11_feed rfl ?_
  refine sp_aload_n 1 rfl rfl rfl ?_
  refine hq_getI 4 rfl rfl rfl ?_
  refine sp_bipush 6 rfl rfl ?_
  refine sp_I (y := Int32.ofInt 20) rfl ?_
  refine sp_iadd 7 rfl rfl ?_
  refine sp_sipush 10 rfl rfl ?_
  refine sp_I (y := Int32.ofInt 1200) rfl ?_
  refine sp_ic_le 13 rfl rfl (fun q => ?_) (fun q => ?_)
  · have k := k.1 q
    refine sp_aload_n 16 rfl rfl rfl ?_
    refine sp_iload_n 17 rfl rfl rfl ?_
    refine sc_V 20 rfl rfl rfl rfl rfl (Nat.le_refl _) (Nat.le_refl _) rfl ?_
    refine mm_s_mono _ _ _ _ _ _ ?_ k
    rintro r_ h_ ⟨I1, J1, rfl, rfl, k⟩
    refine sp_aload_n 21 rfl rfl rfl ?_
    refine sp_iload_n 22 rfl rfl rfl ?_
    refine sc_V 25 rfl rfl rfl rfl rfl (Nat.le_refl _) (Nat.le_refl _) rfl ?_
    refine mm_s_mono _ _ _ _ _ _ ?_ k
    rintro r_ h_ ⟨I2, J2, rfl, rfl, k⟩
    refine sp_aload_n 26 rfl rfl rfl ?_
    refine sp_iload_n 27 rfl rfl rfl ?_
    refine sc_V 30 rfl rfl rfl rfl rfl (Nat.le_refl _) (Nat.le_refl _) rfl ?_
    refine mm_s_mono _ _ _ _ _ _ ?_ k
    rintro r_ h_ ⟨I3, J3, rfl, rfl, k⟩
    refine sp_aload_n 31 rfl rfl rfl ?_
    refine sp_iload 33 rfl rfl rfl ?_
    refine sc_V 36 rfl rfl rfl rfl rfl (Nat.le_refl _) (Nat.le_refl _) rfl ?_
    refine mm_s_mono _ _ _ _ _ _ ?_ k
    rintro r_ h_ ⟨I4, J4, rfl, rfl, k⟩
    refine sp_aload_n 37 rfl rfl rfl ?_
    refine sp_iload 39 rfl rfl rfl ?_
    refine sc_V 42 rfl rfl rfl rfl rfl (Nat.le_refl _) (Nat.le_refl _) rfl ?_
    refine mm_s_mono _ _ _ _ _ _ ?_ k
    rintro r_ h_ ⟨I5, J5, rfl, rfl, k⟩
    refine sp_aload_n 43 rfl rfl rfl ?_
    refine hq_getI 46 rfl rfl rfl ?_
    exact st_iret rfl rfl (Nat.le_refl _) (Nat.le_refl _) k
  · have k := k.2 q
    refine sp_iconst 14 rfl rfl ?_
    exact st_iret rfl rfl (Nat.le_refl _) (Nat.le_refl _) k
def w_X11_token_0 (SL : Nat) (xs : Nat → Int32) (d : Nat) (p s q : Nat) (Q : Option Value → mm_H → Prop)  (I : Nat → Nat → Int32) (J : Nat → Nat → Int64) : Prop := mm_w SL xs (mm_s SL xs (d + 1)) mm_am kX11_token 0 0 none Q 0 [some (.ref 65), none, none] [] (hp p s q I J) 0 0
def w_X11_token_78 (SL : Nat) (xs : Nat → Int32) (d : Nat) (p s q : Nat) (Q : Option Value → mm_H → Prop) (v1 : Int32) (v2 : Int32) (I : Nat → Nat → Int32) (J : Nat → Nat → Int64) : Prop := mm_w SL xs (mm_s SL xs (d + 1)) mm_am kX11_token 0 0 none Q 78 [some (.ref 65), some (.int v1), some (.int v2)] [] (hp p s q I J) 0 0
def w_X11_token_149 (SL : Nat) (xs : Nat → Int32) (d : Nat) (p s q : Nat) (Q : Option Value → mm_H → Prop) (v1 : Int32) (v2 : Int32) (I : Nat → Nat → Int32) (J : Nat → Nat → Int64) : Prop := mm_w SL xs (mm_s SL xs (d + 1)) mm_am kX11_token 0 0 none Q 149 [some (.ref 65), some (.int v1), some (.int v2)] [] (hp p s q I J) 0 0
theorem sg_X11_token_0 {SL : Nat} {xs : Nat → Int32} {d : Nat} {p s q : Nat} {Q : Option Value → mm_H → Prop}  {I : Nat → Nat → Int32} {J : Nat → Nat → Int64}  (k : (mm_s SL xs (d + 1) 168 [.ref 65, .int (Int32.ofInt 0)] (hp p s q I J) (fun r_ h_ => ∃ x1 I1 J1, r_ = some (.int x1) ∧ h_ = hp p s q I1 J1 ∧ ((x1 = (Int32.ofInt 32) → w_X11_token_0 SL xs d p s q Q  (mm_u I1 65 4 ((I1 65 4) + (Int32.ofInt 1))) J1) ∧ (¬ (x1 = (Int32.ofInt 32)) → (mm_s SL xs (d + 1) 168 [.ref 65, .int (Int32.ofInt 0)] (hp p s q I1 J1) (fun r_ h_ => ∃ x2 I2 J2, r_ = some (.int x2) ∧ h_ = hp p s q I2 J2 ∧ ((x2 = (Int32.ofInt 10) → w_X11_token_0 SL xs d p s q Q  (mm_u I2 65 4 ((I2 65 4) + (Int32.ofInt 1))) J2) ∧ (¬ (x2 = (Int32.ofInt 10)) → (mm_s SL xs (d + 1) 168 [.ref 65, .int (Int32.ofInt 0)] (hp p s q (mm_u I2 65 7 (I2 65 4)) J2) (fun r_ h_ => ∃ x3 I3 J3, r_ = some (.int x3) ∧ h_ = hp p s q I3 J3 ∧ ((Int32.ofInt 0 ≤ x3 → (((sx_X11_isLetter x3) = Int32.ofInt 0 → (((sx_X11_isDigit x3) = Int32.ofInt 0 → (((sx_X11_isSign x3) = Int32.ofInt 0 → Q none (hp p s q (mm_u (mm_u I3 65 8 (Int32.ofInt 0)) 65 6 (Int32.ofInt 3)) (mm_u J3 65 9 (Int64.ofInt 0)))) ∧ (¬ ((sx_X11_isSign x3) = Int32.ofInt 0) → ((x3 = (Int32.ofInt 3) → Q none (hp p s q (mm_u (mm_u I3 65 8 (Int32.ofInt 0)) 65 6 x3) (mm_u J3 65 9 (Int64.ofInt 0)))) ∧ (¬ (x3 = (Int32.ofInt 3)) → Q none (hp p s q (mm_u (mm_u (mm_u I3 65 8 (Int32.ofInt 0)) 65 6 x3) 65 4 ((I3 65 4) + (Int32.ofInt 1))) (mm_u J3 65 9 (Int64.ofInt 0)))))))) ∧ (¬ ((sx_X11_isDigit x3) = Int32.ofInt 0) → w_X11_token_149 SL xs d p s q Q x3 (Int32.ofInt 0) (mm_u I3 65 8 (Int32.ofInt 0)) (mm_u J3 65 9 (Int64.ofInt 0))))) ∧ (¬ ((sx_X11_isLetter x3) = Int32.ofInt 0) → w_X11_token_78 SL xs d p s q Q x3 (Int32.ofInt 0) (mm_u I3 65 8 (Int32.ofInt 0)) (mm_u J3 65 9 (Int64.ofInt 0))))) ∧ (¬ (Int32.ofInt 0 ≤ x3) → Q none (hp p s q (mm_u (mm_u (mm_u I3 65 8 (Int32.ofInt 0)) 65 6 (Int32.ofInt 0)) 65 4 ((I3 65 4) + (Int32.ofInt 0))) (mm_u J3 65 9 (Int64.ofInt 0)))))))))))))))) : w_X11_token_0 SL xs d p s q Q  I J := by
  unfold w_X11_token_0
  refine sp_aload_n 1 rfl rfl rfl ?_
  refine sp_iconst 2 rfl rfl ?_
  refine sc_V 5 rfl rfl rfl rfl rfl (Nat.le_refl _) (Nat.le_refl _) rfl ?_
  refine mm_s_mono _ _ _ _ _ _ ?_ k
  rintro r_ h_ ⟨x1, I1, J1, rfl, rfl, k⟩
  refine sp_bipush 7 rfl rfl ?_
  refine sp_I (y := Int32.ofInt 32) rfl ?_
  refine sp_ic_eq 10 rfl rfl (fun q => ?_) (fun q => ?_)
  · have k := k.1 q
    refine sp_aload_n 21 rfl rfl rfl ?_
    refine sp_dup 22 rfl rfl rfl ?_
    refine hq_getI 25 rfl rfl rfl ?_
    refine sp_iconst 26 rfl rfl ?_
    refine sp_iadd 27 rfl rfl ?_
    refine hq_putI 30 rfl rfl rfl ?_
    refine sp_goto rfl ?_
    exact k
  · have k := k.2 q
    refine sp_aload_n 11 rfl rfl rfl ?_
    refine sp_iconst 12 rfl rfl ?_
    refine sc_V 15 rfl rfl rfl rfl rfl (Nat.le_refl _) (Nat.le_refl _) rfl ?_
    refine mm_s_mono _ _ _ _ _ _ ?_ k
    rintro r_ h_ ⟨x2, I2, J2, rfl, rfl, k⟩
    refine sp_bipush 17 rfl rfl ?_
    refine sp_I (y := Int32.ofInt 10) rfl ?_
    refine sp_ic_ne 20 rfl rfl (fun q => ?_) (fun q => ?_)
    · have k := k.2 q
      refine sp_aload_n 34 rfl rfl rfl ?_
      refine sp_aload_n 35 rfl rfl rfl ?_
      refine hq_getI 38 rfl rfl rfl ?_
      refine hq_putI 41 rfl rfl rfl ?_
      refine sp_aload_n 42 rfl rfl rfl ?_
      refine sp_iconst 43 rfl rfl ?_
      refine sc_V 46 rfl rfl rfl rfl rfl (Nat.le_refl _) (Nat.le_refl _) rfl ?_
      refine mm_s_mono _ _ _ _ _ _ ?_ k
      rintro r_ h_ ⟨x3, I3, J3, rfl, rfl, k⟩
      refine sp_istore_n 47 rfl rfl rfl ?_
      refine sp_iconst 48 rfl rfl ?_
      refine sp_istore_n 49 rfl rfl rfl ?_
      refine sp_aload_n 50 rfl rfl rfl ?_
      refine sp_lconst 51 rfl rfl ?_
      refine sp_J (y := Int64.ofInt 0) rfl ?_
      refine hq_putJ 54 rfl rfl rfl ?_
      refine sp_aload_n 55 rfl rfl rfl ?_
      refine sp_iconst 56 rfl rfl ?_
      refine hq_putI 59 rfl rfl rfl ?_
      refine sp_iload_n 60 rfl rfl rfl ?_
      refine sp_if_ge 63 rfl rfl (fun q => ?_) (fun q => ?_)
      · have k := k.1 q
        refine sp_iload_n 72 rfl rfl rfl ?_
        refine sc_S 75 rfl rfl rfl rfl (Nat.le_refl _) (Nat.le_refl _) rfl ?_
        refine cx_X11_isLetter ?_
        refine sp_if_eq 78 rfl rfl (fun q => ?_) (fun q => ?_)
        · have k := k.1 q
          refine sp_iload_n 143 rfl rfl rfl ?_
          refine sc_S 146 rfl rfl rfl rfl (Nat.le_refl _) (Nat.le_refl _) rfl ?_
          refine cx_X11_isDigit ?_
          refine sp_if_eq 149 rfl rfl (fun q => ?_) (fun q => ?_)
          · have k := k.1 q
            refine sp_iconst 220 rfl rfl ?_
            refine sp_istore_n 221 rfl rfl rfl ?_
            refine sp_aload_n 222 rfl rfl rfl ?_
            refine sp_iload_n 223 rfl rfl rfl ?_
            refine sc_S 226 rfl rfl rfl rfl (Nat.le_refl _) (Nat.le_refl _) rfl ?_
            refine cx_X11_isSign ?_
            refine sp_if_eq 229 rfl rfl (fun q => ?_) (fun q => ?_)
            · have k := k.1 q
              refine sp_iconst 234 rfl rfl ?_
              refine hq_putI 237 rfl rfl rfl ?_
              refine sp_aload_n 238 rfl rfl rfl ?_
              refine hq_getI 241 rfl rfl rfl ?_
              refine sp_I (y := Int32.ofInt 3) (by simp [mm_u]) ?_
              refine sp_iconst 242 rfl rfl ?_
              refine sp_ic_eq 245 rfl rfl (fun _ => ?_) (fun q => absurd q (by decide))
              exact st_vret rfl rfl (Nat.le_refl _) (Nat.le_refl _) k
            · have k := k.2 q
              refine sp_iload_n 230 rfl rfl rfl ?_
              refine sp_goto rfl ?_
              refine hq_putI 237 rfl rfl rfl ?_
              refine sp_aload_n 238 rfl rfl rfl ?_
              refine hq_getI 241 rfl rfl rfl ?_
              refine sp_I (y := x3) (by simp [mm_u]) ?_
              refine sp_iconst 242 rfl rfl ?_
              refine sp_ic_eq 245 rfl rfl (fun q => ?_) (fun q => ?_)
              · have k := k.1 q
                exact st_vret rfl rfl (Nat.le_refl _) (Nat.le_refl _) k
              · have k := k.2 q
                refine sp_aload_n 246 rfl rfl rfl ?_
                refine sp_dup 247 rfl rfl rfl ?_
                refine hq_getI 250 rfl rfl rfl ?_
                refine sp_I (y := (I3 65 4)) (by simp [mm_u]) ?_
                refine sp_iload_n 251 rfl rfl rfl ?_
                refine sp_iadd 252 rfl rfl ?_
                refine hq_putI 255 rfl rfl rfl ?_
                exact st_vret rfl rfl (Nat.le_refl _) (Nat.le_refl _) k
          · have k := k.2 q
            exact k
        · have k := k.2 q
          exact k
      · have k := k.2 q
        refine sp_aload_n 64 rfl rfl rfl ?_
        refine sp_iconst 65 rfl rfl ?_
        refine hq_putI 68 rfl rfl rfl ?_
        refine sp_goto rfl ?_
        refine sp_aload_n 238 rfl rfl rfl ?_
        refine hq_getI 241 rfl rfl rfl ?_
        refine sp_I (y := Int32.ofInt 0) (by simp [mm_u]) ?_
        refine sp_iconst 242 rfl rfl ?_
        refine sp_ic_eq 245 rfl rfl (fun q => absurd q (by decide)) (fun _ => ?_)
        refine sp_aload_n 246 rfl rfl rfl ?_
        refine sp_dup 247 rfl rfl rfl ?_
        refine hq_getI 250 rfl rfl rfl ?_
        refine sp_I (y := (I3 65 4)) (by simp [mm_u]) ?_
        refine sp_iload_n 251 rfl rfl rfl ?_
        refine sp_iadd 252 rfl rfl ?_
        refine hq_putI 255 rfl rfl rfl ?_
        exact st_vret rfl rfl (Nat.le_refl _) (Nat.le_refl _) k
    · have k := k.1 q
      refine sp_aload_n 21 rfl rfl rfl ?_
      refine sp_dup 22 rfl rfl rfl ?_
      refine hq_getI 25 rfl rfl rfl ?_
      refine sp_iconst 26 rfl rfl ?_
      refine sp_iadd 27 rfl rfl ?_
      refine hq_putI 30 rfl rfl rfl ?_
      refine sp_goto rfl ?_
      exact k
theorem sg_X11_token_78 {SL : Nat} {xs : Nat → Int32} {d : Nat} {p s q : Nat} {Q : Option Value → mm_H → Prop} {v1 : Int32} {v2 : Int32} {I : Nat → Nat → Int32} {J : Nat → Nat → Int64}  (k : (mm_s SL xs (d + 1) 168 [.ref 65, .int v2] (hp p s q I J) (fun r_ h_ => ∃ x1 I1 J1, r_ = some (.int x1) ∧ h_ = hp p s q I1 J1 ∧ (((sx_X11_isLetter x1) = Int32.ofInt 0 → ((v2 ≤ (Int32.ofInt 8) → Q none (hp p s q (mm_u (mm_u (mm_u I1 65 10 v2) 65 6 (Int32.ofInt 1)) 65 4 ((I1 65 4) + v2)) J1)) ∧ (¬ (v2 ≤ (Int32.ofInt 8)) → Q none (hp p s q (mm_u (mm_u I1 65 10 v2) 65 6 (Int32.ofInt 3)) J1)))) ∧ (¬ ((sx_X11_isLetter x1) = Int32.ofInt 0) → (((Int32.ofInt 8) ≤ v2 → w_X11_token_78 SL xs d p s q Q v1 (v2 + Int32.ofInt 1) I1 J1) ∧ (¬ ((Int32.ofInt 8) ≤ v2) → (mm_s SL xs (d + 1) 168 [.ref 65, .int v2] (hp p s q I1 J1) (fun r_ h_ => ∃ x2 I2 J2, r_ = some (.int x2) ∧ h_ = hp p s q I2 J2 ∧ w_X11_token_78 SL xs d p s q Q v1 (v2 + Int32.ofInt 1) I2 (mm_u J2 65 9 (((J1 65 9) <<< ((Int32.ofInt 8).toInt64 &&& 63)) ||| ((x2).toInt64)))))))))))) : w_X11_token_78 SL xs d p s q Q v1 v2 I J := by
  unfold w_X11_token_78
  refine sp_aload_n 79 rfl rfl rfl ?_
  refine sp_iload_n 80 rfl rfl rfl ?_
  refine sc_V 83 rfl rfl rfl rfl rfl (Nat.le_refl _) (Nat.le_refl _) rfl ?_
  refine mm_s_mono _ _ _ _ _ _ ?_ k
  rintro r_ h_ ⟨x1, I1, J1, rfl, rfl, k⟩
  refine sc_S 86 rfl rfl rfl rfl (Nat.le_refl _) (Nat.le_refl _) rfl ?_
  refine cx_X11_isLetter ?_
  refine sp_if_eq 89 rfl rfl (fun q => ?_) (fun q => ?_)
  · have k := k.1 q
    refine sp_aload_n 120 rfl rfl rfl ?_
    refine sp_iload_n 121 rfl rfl rfl ?_
    refine hq_putI 124 rfl rfl rfl ?_
    refine sp_aload_n 125 rfl rfl rfl ?_
    refine sp_iload_n 126 rfl rfl rfl ?_
    refine sp_bipush 128 rfl rfl ?_
    refine sp_I (y := Int32.ofInt 8) rfl ?_
    refine sp_ic_le 131 rfl rfl (fun q => ?_) (fun q => ?_)
    · have k := k.1 q
      refine sp_iconst 136 rfl rfl ?_
      refine hq_putI 139 rfl rfl rfl ?_
      refine sp_goto rfl ?_
      refine sp_aload_n 238 rfl rfl rfl ?_
      refine hq_getI 241 rfl rfl rfl ?_
      refine sp_I (y := Int32.ofInt 1) (by simp [mm_u]) ?_
      refine sp_iconst 242 rfl rfl ?_
      refine sp_ic_eq 245 rfl rfl (fun q => absurd q (by decide)) (fun _ => ?_)
      refine sp_aload_n 246 rfl rfl rfl ?_
      refine sp_dup 247 rfl rfl rfl ?_
      refine hq_getI 250 rfl rfl rfl ?_
      refine sp_I (y := (I1 65 4)) (by simp [mm_u]) ?_
      refine sp_iload_n 251 rfl rfl rfl ?_
      refine sp_iadd 252 rfl rfl ?_
      refine hq_putI 255 rfl rfl rfl ?_
      exact st_vret rfl rfl (Nat.le_refl _) (Nat.le_refl _) k
    · have k := k.2 q
      refine sp_iconst 132 rfl rfl ?_
      refine sp_goto rfl ?_
      refine hq_putI 139 rfl rfl rfl ?_
      refine sp_goto rfl ?_
      refine sp_aload_n 238 rfl rfl rfl ?_
      refine hq_getI 241 rfl rfl rfl ?_
      refine sp_I (y := Int32.ofInt 3) (by simp [mm_u]) ?_
      refine sp_iconst 242 rfl rfl ?_
      refine sp_ic_eq 245 rfl rfl (fun _ => ?_) (fun q => absurd q (by decide))
      exact st_vret rfl rfl (Nat.le_refl _) (Nat.le_refl _) k
  · have k := k.2 q
    refine sp_iload_n 90 rfl rfl rfl ?_
    refine sp_bipush 92 rfl rfl ?_
    refine sp_I (y := Int32.ofInt 8) rfl ?_
    refine sp_ic_ge 95 rfl rfl (fun q => ?_) (fun q => ?_)
    · have k := k.1 q
      refine sp_iinc 116 rfl rfl rfl rfl ?_
      refine sp_goto rfl ?_
      exact k
    · have k := k.2 q
      refine sp_aload_n 96 rfl rfl rfl ?_
      refine sp_aload_n 97 rfl rfl rfl ?_
      refine hq_getJ 100 rfl rfl rfl ?_
      refine sp_bipush 102 rfl rfl ?_
      refine sp_I (y := Int32.ofInt 8) rfl ?_
      refine sp_lshl 103 rfl rfl ?_
      refine sp_aload_n 104 rfl rfl rfl ?_
      refine sp_iload_n 105 rfl rfl rfl ?_
      refine sc_V 108 rfl rfl rfl rfl rfl (Nat.le_refl _) (Nat.le_refl _) rfl ?_
      refine mm_s_mono _ _ _ _ _ _ ?_ k
      rintro r_ h_ ⟨x2, I2, J2, rfl, rfl, k⟩
      refine sp_i2l 109 rfl rfl ?_
      refine sp_lor 110 rfl rfl ?_
      refine hq_putJ 113 rfl rfl rfl ?_
      refine sp_iinc 116 rfl rfl rfl rfl ?_
      refine sp_goto rfl ?_
      exact k
theorem sg_X11_token_149 {SL : Nat} {xs : Nat → Int32} {d : Nat} {p s q : Nat} {Q : Option Value → mm_H → Prop} {v1 : Int32} {v2 : Int32} {I : Nat → Nat → Int32} {J : Nat → Nat → Int64}  (k : (mm_s SL xs (d + 1) 168 [.ref 65, .int v2] (hp p s q I J) (fun r_ h_ => ∃ x1 I1 J1, r_ = some (.int x1) ∧ h_ = hp p s q I1 J1 ∧ (((sx_X11_isDigit x1) = Int32.ofInt 0 → (((Int32.ofInt 4) < v2 → Q none (hp p s q (mm_u I1 65 6 (Int32.ofInt 3)) J1)) ∧ (¬ ((Int32.ofInt 4) < v2) → (mm_s SL xs (d + 1) 168 [.ref 65, .int v2] (hp p s q I1 J1) (fun r_ h_ => ∃ x2 I2 J2, r_ = some (.int x2) ∧ h_ = hp p s q I2 J2 ∧ (((sx_X11_isLetter x2) = Int32.ofInt 0 → Q none (hp p s q (mm_u (mm_u I2 65 6 (Int32.ofInt 2)) 65 4 ((I2 65 4) + v2)) J2)) ∧ (¬ ((sx_X11_isLetter x2) = Int32.ofInt 0) → Q none (hp p s q (mm_u I2 65 6 (Int32.ofInt 3)) J2)))))))) ∧ (¬ ((sx_X11_isDigit x1) = Int32.ofInt 0) → (((Int32.ofInt 4) ≤ v2 → w_X11_token_149 SL xs d p s q Q v1 (v2 + Int32.ofInt 1) I1 J1) ∧ (¬ ((Int32.ofInt 4) ≤ v2) → (mm_s SL xs (d + 1) 168 [.ref 65, .int v2] (hp p s q I1 J1) (fun r_ h_ => ∃ x3 I3 J3, r_ = some (.int x3) ∧ h_ = hp p s q I3 J3 ∧ w_X11_token_149 SL xs d p s q Q v1 (v2 + Int32.ofInt 1) (mm_u I3 65 8 ((((Int32.ofInt 10) * (I1 65 8)) + x3) - (Int32.ofInt 48))) J3))))))))) : w_X11_token_149 SL xs d p s q Q v1 v2 I J := by
  unfold w_X11_token_149
  refine sp_aload_n 150 rfl rfl rfl ?_
  refine sp_iload_n 151 rfl rfl rfl ?_
  refine sc_V 154 rfl rfl rfl rfl rfl (Nat.le_refl _) (Nat.le_refl _) rfl ?_
  refine mm_s_mono _ _ _ _ _ _ ?_ k
  rintro r_ h_ ⟨x1, I1, J1, rfl, rfl, k⟩
  refine sc_S 157 rfl rfl rfl rfl (Nat.le_refl _) (Nat.le_refl _) rfl ?_
  refine cx_X11_isDigit ?_
  refine sp_if_eq 160 rfl rfl (fun q => ?_) (fun q => ?_)
  · have k := k.1 q
    refine sp_aload_n 192 rfl rfl rfl ?_
    refine sp_iload_n 193 rfl rfl rfl ?_
    refine sp_iconst 194 rfl rfl ?_
    refine sp_ic_gt 197 rfl rfl (fun q => ?_) (fun q => ?_)
    · have k := k.1 q
      refine sp_iconst 209 rfl rfl ?_
      refine sp_goto rfl ?_
      refine hq_putI 216 rfl rfl rfl ?_
      refine sp_goto rfl ?_
      refine sp_aload_n 238 rfl rfl rfl ?_
      refine hq_getI 241 rfl rfl rfl ?_
      refine sp_I (y := Int32.ofInt 3) (by simp [mm_u]) ?_
      refine sp_iconst 242 rfl rfl ?_
      refine sp_ic_eq 245 rfl rfl (fun _ => ?_) (fun q => absurd q (by decide))
      exact st_vret rfl rfl (Nat.le_refl _) (Nat.le_refl _) k
    · have k := k.2 q
      refine sp_aload_n 198 rfl rfl rfl ?_
      refine sp_iload_n 199 rfl rfl rfl ?_
      refine sc_V 202 rfl rfl rfl rfl rfl (Nat.le_refl _) (Nat.le_refl _) rfl ?_
      refine mm_s_mono _ _ _ _ _ _ ?_ k
      rintro r_ h_ ⟨x2, I2, J2, rfl, rfl, k⟩
      refine sc_S 205 rfl rfl rfl rfl (Nat.le_refl _) (Nat.le_refl _) rfl ?_
      refine cx_X11_isLetter ?_
      refine sp_if_eq 208 rfl rfl (fun q => ?_) (fun q => ?_)
      · have k := k.1 q
        refine sp_iconst 213 rfl rfl ?_
        refine hq_putI 216 rfl rfl rfl ?_
        refine sp_goto rfl ?_
        refine sp_aload_n 238 rfl rfl rfl ?_
        refine hq_getI 241 rfl rfl rfl ?_
        refine sp_I (y := Int32.ofInt 2) (by simp [mm_u]) ?_
        refine sp_iconst 242 rfl rfl ?_
        refine sp_ic_eq 245 rfl rfl (fun q => absurd q (by decide)) (fun _ => ?_)
        refine sp_aload_n 246 rfl rfl rfl ?_
        refine sp_dup 247 rfl rfl rfl ?_
        refine hq_getI 250 rfl rfl rfl ?_
        refine sp_I (y := (I2 65 4)) (by simp [mm_u]) ?_
        refine sp_iload_n 251 rfl rfl rfl ?_
        refine sp_iadd 252 rfl rfl ?_
        refine hq_putI 255 rfl rfl rfl ?_
        exact st_vret rfl rfl (Nat.le_refl _) (Nat.le_refl _) k
      · have k := k.2 q
        refine sp_iconst 209 rfl rfl ?_
        refine sp_goto rfl ?_
        refine hq_putI 216 rfl rfl rfl ?_
        refine sp_goto rfl ?_
        refine sp_aload_n 238 rfl rfl rfl ?_
        refine hq_getI 241 rfl rfl rfl ?_
        refine sp_I (y := Int32.ofInt 3) (by simp [mm_u]) ?_
        refine sp_iconst 242 rfl rfl ?_
        refine sp_ic_eq 245 rfl rfl (fun _ => ?_) (fun q => absurd q (by decide))
        exact st_vret rfl rfl (Nat.le_refl _) (Nat.le_refl _) k
  · have k := k.2 q
    refine sp_iload_n 161 rfl rfl rfl ?_
    refine sp_iconst 162 rfl rfl ?_
    refine sp_ic_ge 165 rfl rfl (fun q => ?_) (fun q => ?_)
    · have k := k.1 q
      refine sp_iinc 188 rfl rfl rfl rfl ?_
      refine sp_goto rfl ?_
      exact k
    · have k := k.2 q
      refine sp_aload_n 166 rfl rfl rfl ?_
      refine sp_bipush 168 rfl rfl ?_
      refine sp_I (y := Int32.ofInt 10) rfl ?_
      refine sp_aload_n 169 rfl rfl rfl ?_
      refine hq_getI 172 rfl rfl rfl ?_
      refine sp_imul 173 rfl rfl ?_
      refine sp_aload_n 174 rfl rfl rfl ?_
      refine sp_iload_n 175 rfl rfl rfl ?_
      refine sc_V 178 rfl rfl rfl rfl rfl (Nat.le_refl _) (Nat.le_refl _) rfl ?_
      refine mm_s_mono _ _ _ _ _ _ ?_ k
      rintro r_ h_ ⟨x3, I3, J3, rfl, rfl, k⟩
      refine sp_iadd 179 rfl rfl ?_
      refine sp_bipush 181 rfl rfl ?_
      refine sp_I (y := Int32.ofInt 48) rfl ?_
      refine sp_isub 182 rfl rfl ?_
      refine hq_putI 185 rfl rfl rfl ?_
      refine sp_iinc 188 rfl rfl rfl rfl ?_
      refine sp_goto rfl ?_
      exact k
theorem sg_X11_pop {SL : Nat} {xs : Nat → Int32} {d : Nat} {p s q : Nat} {Q : Option Value → mm_H → Prop}  {I : Nat → Nat → Int32} {J : Nat → Nat → Int64}  (k : (vp_in ((I 65 22) - (Int32.ofInt 1)) 300 ∧ (((I 71 ((((I 65 22) - (Int32.ofInt 1))).toNatClampNeg)) = (Int32.ofInt 22) → (mm_s SL xs (d + 1) 179 [.ref 65, .int (I 71 ((((I 65 22) - (Int32.ofInt 1))).toNatClampNeg)), .int (Int32.ofInt 0)] (hp p s q (mm_u (mm_u I 65 22 ((I 65 22) - (Int32.ofInt 1))) 65 23 ((I 65 23) - (Int32.ofInt 1))) J) (fun r_ h_ => ∃ I2 J2, r_ = none ∧ h_ = hp p s q I2 J2 ∧ Q none (hp p s q I2 J2)))) ∧ (¬ ((I 71 ((((I 65 22) - (Int32.ofInt 1))).toNatClampNeg)) = (Int32.ofInt 22)) → (mm_s SL xs (d + 1) 179 [.ref 65, .int (I 71 ((((I 65 22) - (Int32.ofInt 1))).toNatClampNeg)), .int (Int32.ofInt 0)] (hp p s q (mm_u I 65 22 ((I 65 22) - (Int32.ofInt 1))) J) (fun r_ h_ => ∃ I1 J1, r_ = none ∧ h_ = hp p s q I1 J1 ∧ Q none (hp p s q I1 J1))))))) : mm_s SL xs (d + 2) 182 [.ref 65] (hp p s q I J) Q := by
  refine e_X11_pop rfl ?_
  refine sp_aload_n 1 rfl rfl rfl ?_
  refine sp_dup 2 rfl rfl rfl ?_
  refine hq_getI 5 rfl rfl rfl ?_
  refine sp_iconst 6 rfl rfl ?_
  refine sp_isub 7 rfl rfl ?_
  refine hq_putI 10 rfl rfl rfl ?_
  refine sp_aload_n 11 rfl rfl rfl ?_
  refine hq_getR 14 rfl rfl rfl rfl ?_
  refine sp_aload_n 15 rfl rfl rfl ?_
  refine hq_getI 18 rfl rfl rfl ?_
  refine sp_I (y := ((I 65 22) - (Int32.ofInt 1))) (by simp [mm_u]) ?_
  have n1_ := k.1
  have k := k.2
  refine hq_iald 19 rfl rfl n1_ rfl ?_
  refine sp_I (y := (I 71 ((((I 65 22) - (Int32.ofInt 1))).toNatClampNeg))) (by simp [mm_u]) ?_
  refine sp_bipush 21 rfl rfl ?_
  refine sp_I (y := Int32.ofInt 22) rfl ?_
  refine sp_ic_ne 24 rfl rfl (fun q => ?_) (fun q => ?_)
  · have k := k.2 q
    refine sp_aload_n 35 rfl rfl rfl ?_
    refine sp_aload_n 36 rfl rfl rfl ?_
    refine hq_getR 39 rfl rfl rfl rfl ?_
    refine sp_aload_n 40 rfl rfl rfl ?_
    refine hq_getI 43 rfl rfl rfl ?_
    refine sp_I (y := ((I 65 22) - (Int32.ofInt 1))) (by simp [mm_u]) ?_
    refine hq_iald 44 rfl rfl n1_ rfl ?_
    refine sp_I (y := (I 71 ((((I 65 22) - (Int32.ofInt 1))).toNatClampNeg))) (by simp [mm_u]) ?_
    refine sp_iconst 45 rfl rfl ?_
    refine sc_V 48 rfl rfl rfl rfl rfl (Nat.le_refl _) (Nat.le_refl _) rfl ?_
    refine mm_s_mono _ _ _ _ _ _ ?_ k
    rintro r_ h_ ⟨I1, J1, rfl, rfl, k⟩
    exact st_vret rfl rfl (Nat.le_refl _) (Nat.le_refl _) k
  · have k := k.1 q
    refine sp_aload_n 25 rfl rfl rfl ?_
    refine sp_dup 26 rfl rfl rfl ?_
    refine hq_getI 29 rfl rfl rfl ?_
    refine sp_I (y := (I 65 23)) (by simp [mm_u]) ?_
    refine sp_iconst 30 rfl rfl ?_
    refine sp_isub 31 rfl rfl ?_
    refine hq_putI 34 rfl rfl rfl ?_
    refine sp_aload_n 35 rfl rfl rfl ?_
    refine sp_aload_n 36 rfl rfl rfl ?_
    refine hq_getR 39 rfl rfl rfl rfl ?_
    refine sp_aload_n 40 rfl rfl rfl ?_
    refine hq_getI 43 rfl rfl rfl ?_
    refine sp_I (y := ((I 65 22) - (Int32.ofInt 1))) (by simp [mm_u]) ?_
    refine hq_iald 44 rfl rfl n1_ rfl ?_
    refine sp_I (y := (I 71 ((((I 65 22) - (Int32.ofInt 1))).toNatClampNeg))) (by simp [mm_u]) ?_
    refine sp_iconst 45 rfl rfl ?_
    refine sc_V 48 rfl rfl rfl rfl rfl (Nat.le_refl _) (Nat.le_refl _) rfl ?_
    refine mm_s_mono _ _ _ _ _ _ ?_ k
    rintro r_ h_ ⟨I2, J2, rfl, rfl, k⟩
    exact st_vret rfl rfl (Nat.le_refl _) (Nat.le_refl _) k
def w_X11_counted_75 (SL : Nat) (xs : Nat → Int32) (d : Nat) (p s q : Nat) (Q : Option Value → mm_H → Prop) (v1 : Int32) (v2 : Int32) (I : Nat → Nat → Int32) (J : Nat → Nat → Int64) : Prop := mm_w SL xs (mm_s SL xs (d + 1)) mm_am kX11_counted 0 0 (some .int) Q 75 [some (.ref 65), some (.int v1), some (.int v2)] [] (hp p s q I J) 0 0
theorem sg_X11_counted {SL : Nat} {xs : Nat → Int32} {d : Nat} {p s q : Nat} {Q : Option Value → mm_H → Prop}  {I : Nat → Nat → Int32} {J : Nat → Nat → Int64}  (k : (((I 65 76) ≤ Int32.ofInt 0 → (((I 65 53) = Int32.ofInt 0 → Q (some (.int (Int32.ofInt 3))) (hp p s q I J)) ∧ (¬ ((I 65 53) = Int32.ofInt 0) → (vp_in (Int32.ofInt 1) 6 ∧ (vp_in (Int32.ofInt 2) 6 ∧ (vp_in (Int32.ofInt 3) 6 ∧ (vp_in (Int32.ofInt 4) 6 ∧ (vp_in (Int32.ofInt 5) 6 ∧ w_X11_counted_75 SL xs d p s q Q (Int32.ofInt 0) (Int32.ofInt 0) (mm_u (mm_u (mm_u (mm_u (mm_u I 73 (((Int32.ofInt 1)).toNatClampNeg) (I 65 60)) 73 (((Int32.ofInt 2)).toNatClampNeg) (I 65 59)) 73 (((Int32.ofInt 3)).toNatClampNeg) (I 65 62)) 73 (((Int32.ofInt 4)).toNatClampNeg) (I 65 45)) 73 (((Int32.ofInt 5)).toNatClampNeg) (I 65 46)) J)))))))) ∧ (¬ ((I 65 76) ≤ Int32.ofInt 0) → Q (some (.int (I 65 76))) (hp p s q I J)))) : mm_s SL xs (d + 2) 206 [.ref 65] (hp p s q I J) Q := by
  refine e_X11_counted rfl ?_
  refine sp_aload_n 1 rfl rfl rfl ?_
  refine hq_getI 4 rfl rfl rfl ?_
  refine sp_if_le 7 rfl rfl (fun q => ?_) (fun q => ?_)
  · have k := k.1 q
    refine sp_aload_n 13 rfl rfl rfl ?_
    refine hq_getI 16 rfl rfl rfl ?_
    refine sp_if_ne 19 rfl rfl (fun q => ?_) (fun q => ?_)
    · have k := k.2 q
      refine sp_aload_n 22 rfl rfl rfl ?_
      refine hq_getR 25 rfl rfl rfl rfl ?_
      refine sp_iconst 26 rfl rfl ?_
      refine sp_aload_n 27 rfl rfl rfl ?_
      refine hq_getI 30 rfl rfl rfl ?_
      have n1_ := k.1
      have k := k.2
      refine hq_iast 31 rfl rfl n1_ rfl ?_
      refine sp_aload_n 32 rfl rfl rfl ?_
      refine hq_getR 35 rfl rfl rfl rfl ?_
      refine sp_iconst 36 rfl rfl ?_
      refine sp_aload_n 37 rfl rfl rfl ?_
      refine hq_getI 40 rfl rfl rfl ?_
      refine sp_I (y := (I 65 59)) (by simp [mm_u]) ?_
      have n2_ := k.1
      have k := k.2
      refine hq_iast 41 rfl rfl n2_ rfl ?_
      refine sp_aload_n 42 rfl rfl rfl ?_
      refine hq_getR 45 rfl rfl rfl rfl ?_
      refine sp_iconst 46 rfl rfl ?_
      refine sp_aload_n 47 rfl rfl rfl ?_
      refine hq_getI 50 rfl rfl rfl ?_
      refine sp_I (y := (I 65 62)) (by simp [mm_u]) ?_
      have n3_ := k.1
      have k := k.2
      refine hq_iast 51 rfl rfl n3_ rfl ?_
      refine sp_aload_n 52 rfl rfl rfl ?_
      refine hq_getR 55 rfl rfl rfl rfl ?_
      refine sp_iconst 56 rfl rfl ?_
      refine sp_aload_n 57 rfl rfl rfl ?_
      refine hq_getI 60 rfl rfl rfl ?_
      refine sp_I (y := (I 65 45)) (by simp [mm_u]) ?_
      have n4_ := k.1
      have k := k.2
      refine hq_iast 61 rfl rfl n4_ rfl ?_
      refine sp_aload_n 62 rfl rfl rfl ?_
      refine hq_getR 65 rfl rfl rfl rfl ?_
      refine sp_iconst 66 rfl rfl ?_
      refine sp_aload_n 67 rfl rfl rfl ?_
      refine hq_getI 70 rfl rfl rfl ?_
      refine sp_I (y := (I 65 46)) (by simp [mm_u]) ?_
      have n5_ := k.1
      have k := k.2
      refine hq_iast 71 rfl rfl n5_ rfl ?_
      refine sp_iconst 72 rfl rfl ?_
      refine sp_istore_n 73 rfl rfl rfl ?_
      refine sp_iconst 74 rfl rfl ?_
      refine sp_istore_n 75 rfl rfl rfl ?_
      exact k
    · have k := k.1 q
      refine sp_iconst 20 rfl rfl ?_
      exact st_iret rfl rfl (Nat.le_refl _) (Nat.le_refl _) k
  · have k := k.2 q
    refine sp_aload_n 8 rfl rfl rfl ?_
    refine hq_getI 11 rfl rfl rfl ?_
    exact st_iret rfl rfl (Nat.le_refl _) (Nat.le_refl _) k
theorem sg_X11_counted_75 {SL : Nat} {xs : Nat → Int32} {d : Nat} {p s q : Nat} {Q : Option Value → mm_H → Prop} {v1 : Int32} {v2 : Int32} {I : Nat → Nat → Int32} {J : Nat → Nat → Int64}  (k : (((I 65 20) ≤ v2 → (vp_in (Int32.ofInt 0) 50 ∧ (((Int32.ofInt 1) ≤ (I 72 (((Int32.ofInt 0)).toNatClampNeg)) → (((I 72 (((Int32.ofInt 0)).toNatClampNeg)) ≤ (Int32.ofInt 999) → Q (some (.int (I 72 (((Int32.ofInt 0)).toNatClampNeg)))) (hp p s q I J)) ∧ (¬ ((I 72 (((Int32.ofInt 0)).toNatClampNeg)) ≤ (Int32.ofInt 999)) → Q (some (.int (Int32.ofInt 999))) (hp p s q I J)))) ∧ (¬ ((Int32.ofInt 1) ≤ (I 72 (((Int32.ofInt 0)).toNatClampNeg))) → Q (some (.int (Int32.ofInt 1))) (hp p s q I J))))) ∧ (¬ ((I 65 20) ≤ v2) → (vp_in v2 500 ∧ (((Int32.ofInt 20) ≤ (I 69 ((v2).toNatClampNeg)) → (((I 69 ((v2).toNatClampNeg)) = (Int32.ofInt 22) → (vp_in (v1 - (Int32.ofInt 1)) 50 ∧ (((I 72 (((v1 - (Int32.ofInt 1))).toNatClampNeg)) = Int32.ofInt 0 → w_X11_counted_75 SL xs d p s q Q v1 (v2 + Int32.ofInt 1) (mm_u I 72 (((v1 - (Int32.ofInt 1))).toNatClampNeg) (Int32.ofInt 1)) J) ∧ (¬ ((I 72 (((v1 - (Int32.ofInt 1))).toNatClampNeg)) = Int32.ofInt 0) → w_X11_counted_75 SL xs d p s q Q v1 (v2 + Int32.ofInt 1) (mm_u I 72 (((v1 - (Int32.ofInt 1))).toNatClampNeg) (Int32.ofInt 0)) J)))) ∧ (¬ ((I 69 ((v2).toNatClampNeg)) = (Int32.ofInt 22)) → (vp_in ((v1 + Int32.ofInt (-1)) - (Int32.ofInt 1)) 50 ∧ (vp_in (v1 + Int32.ofInt (-1)) 50 ∧ (mm_s SL xs (d + 1) 205 [.int (I 69 ((v2).toNatClampNeg)), .int (I 72 ((((v1 + Int32.ofInt (-1)) - (Int32.ofInt 1))).toNatClampNeg)), .int (I 72 (((v1 + Int32.ofInt (-1))).toNatClampNeg))] (hp p s q I J) (fun r_ h_ => ∃ x1 I1 J1, r_ = some (.int x1) ∧ h_ = hp p s q I1 J1 ∧ w_X11_counted_75 SL xs d p s q Q (v1 + Int32.ofInt (-1)) (v2 + Int32.ofInt 1) (mm_u I1 72 ((((v1 + Int32.ofInt (-1)) - (Int32.ofInt 1))).toNatClampNeg) x1) J1))))))) ∧ (¬ ((Int32.ofInt 20) ≤ (I 69 ((v2).toNatClampNeg))) → (((I 69 ((v2).toNatClampNeg)) = Int32.ofInt 0 → (vp_in v1 50 ∧ w_X11_counted_75 SL xs d p s q Q (v1 + Int32.ofInt 1) (v2 + Int32.ofInt 1) (mm_u I 72 ((v1).toNatClampNeg) (I 70 ((v2).toNatClampNeg))) J)) ∧ (¬ ((I 69 ((v2).toNatClampNeg)) = Int32.ofInt 0) → (vp_in (I 69 ((v2).toNatClampNeg)) 6 ∧ (vp_in v1 50 ∧ w_X11_counted_75 SL xs d p s q Q (v1 + Int32.ofInt 1) (v2 + Int32.ofInt 1) (mm_u I 72 ((v1).toNatClampNeg) (I 73 (((I 69 ((v2).toNatClampNeg))).toNatClampNeg))) J)))))))))) : w_X11_counted_75 SL xs d p s q Q v1 v2 I J := by
  unfold w_X11_counted_75
  refine sp_iload_n 76 rfl rfl rfl ?_
  refine sp_aload_n 77 rfl rfl rfl ?_
  refine hq_getI 80 rfl rfl rfl ?_
  refine sp_ic_ge 83 rfl rfl (fun q => ?_) (fun q => ?_)
  · have k := k.1 q
    refine sp_aload_n 214 rfl rfl rfl ?_
    refine hq_getR 217 rfl rfl rfl rfl ?_
    refine sp_iconst 218 rfl rfl ?_
    have n6_ := k.1
    have k := k.2
    refine hq_iald 219 rfl rfl n6_ rfl ?_
    refine sp_iconst 220 rfl rfl ?_
    refine sp_ic_ge 223 rfl rfl (fun q => ?_) (fun q => ?_)
    · have k := k.1 q
      refine sp_aload_n 228 rfl rfl rfl ?_
      refine hq_getR 231 rfl rfl rfl rfl ?_
      refine sp_iconst 232 rfl rfl ?_
      refine hq_iald 233 rfl rfl n6_ rfl ?_
      refine sp_sipush 236 rfl rfl ?_
      refine sp_I (y := Int32.ofInt 999) rfl ?_
      refine sp_ic_le 239 rfl rfl (fun q => ?_) (fun q => ?_)
      · have k := k.1 q
        refine sp_aload_n 246 rfl rfl rfl ?_
        refine hq_getR 249 rfl rfl rfl rfl ?_
        refine sp_iconst 250 rfl rfl ?_
        refine hq_iald 251 rfl rfl n6_ rfl ?_
        exact st_iret rfl rfl (Nat.le_refl _) (Nat.le_refl _) k
      · have k := k.2 q
        refine sp_sipush 242 rfl rfl ?_
        refine sp_I (y := Int32.ofInt 999) rfl ?_
        refine sp_goto rfl ?_
        exact st_iret rfl rfl (Nat.le_refl _) (Nat.le_refl _) k
    · have k := k.2 q
      refine sp_iconst 224 rfl rfl ?_
      refine sp_goto rfl ?_
      exact st_iret rfl rfl (Nat.le_refl _) (Nat.le_refl _) k
  · have k := k.2 q
    refine sp_aload_n 84 rfl rfl rfl ?_
    refine hq_getR 87 rfl rfl rfl rfl ?_
    refine sp_iload_n 88 rfl rfl rfl ?_
    have n7_ := k.1
    have k := k.2
    refine hq_iald 89 rfl rfl n7_ rfl ?_
    refine sp_bipush 91 rfl rfl ?_
    refine sp_I (y := Int32.ofInt 20) rfl ?_
    refine sp_ic_ge 94 rfl rfl (fun q => ?_) (fun q => ?_)
    · have k := k.1 q
      refine sp_aload_n 136 rfl rfl rfl ?_
      refine hq_getR 139 rfl rfl rfl rfl ?_
      refine sp_iload_n 140 rfl rfl rfl ?_
      refine hq_iald 141 rfl rfl n7_ rfl ?_
      refine sp_bipush 143 rfl rfl ?_
      refine sp_I (y := Int32.ofInt 22) rfl ?_
      refine sp_ic_ne 146 rfl rfl (fun q => ?_) (fun q => ?_)
      · have k := k.2 q
        refine sp_iinc 176 rfl rfl rfl rfl ?_
        refine sp_aload_n 177 rfl rfl rfl ?_
        refine hq_getR 180 rfl rfl rfl rfl ?_
        refine sp_iload_n 181 rfl rfl rfl ?_
        refine sp_iconst 182 rfl rfl ?_
        refine sp_isub 183 rfl rfl ?_
        refine sp_aload_n 184 rfl rfl rfl ?_
        refine hq_getR 187 rfl rfl rfl rfl ?_
        refine sp_iload_n 188 rfl rfl rfl ?_
        refine hq_iald 189 rfl rfl n7_ rfl ?_
        refine sp_aload_n 190 rfl rfl rfl ?_
        refine hq_getR 193 rfl rfl rfl rfl ?_
        refine sp_iload_n 194 rfl rfl rfl ?_
        refine sp_iconst 195 rfl rfl ?_
        refine sp_isub 196 rfl rfl ?_
        have n8_ := k.1
        have k := k.2
        refine hq_iald 197 rfl rfl n8_ rfl ?_
        refine sp_aload_n 198 rfl rfl rfl ?_
        refine hq_getR 201 rfl rfl rfl rfl ?_
        refine sp_iload_n 202 rfl rfl rfl ?_
        have n9_ := k.1
        have k := k.2
        refine hq_iald 203 rfl rfl n9_ rfl ?_
        refine sc_S 206 rfl rfl rfl rfl (Nat.le_refl _) (Nat.le_refl _) rfl ?_
        refine mm_s_mono _ _ _ _ _ _ ?_ k
        rintro r_ h_ ⟨x1, I1, J1, rfl, rfl, k⟩
        refine hq_iast 207 rfl rfl n8_ rfl ?_
        refine sp_iinc 210 rfl rfl rfl rfl ?_
        refine sp_goto rfl ?_
        exact k
      · have k := k.1 q
        refine sp_aload_n 147 rfl rfl rfl ?_
        refine hq_getR 150 rfl rfl rfl rfl ?_
        refine sp_iload_n 151 rfl rfl rfl ?_
        refine sp_iconst 152 rfl rfl ?_
        refine sp_isub 153 rfl rfl ?_
        refine sp_aload_n 154 rfl rfl rfl ?_
        refine hq_getR 157 rfl rfl rfl rfl ?_
        refine sp_iload_n 158 rfl rfl rfl ?_
        refine sp_iconst 159 rfl rfl ?_
        refine sp_isub 160 rfl rfl ?_
        have n10_ := k.1
        have k := k.2
        refine hq_iald 161 rfl rfl n10_ rfl ?_
        refine sp_if_ne 164 rfl rfl (fun q => ?_) (fun q => ?_)
        · have k := k.2 q
          refine sp_iconst 169 rfl rfl ?_
          refine hq_iast 170 rfl rfl n10_ rfl ?_
          refine sp_goto rfl ?_
          refine sp_iinc 210 rfl rfl rfl rfl ?_
          refine sp_goto rfl ?_
          exact k
        · have k := k.1 q
          refine sp_iconst 165 rfl rfl ?_
          refine sp_goto rfl ?_
          refine hq_iast 170 rfl rfl n10_ rfl ?_
          refine sp_goto rfl ?_
          refine sp_iinc 210 rfl rfl rfl rfl ?_
          refine sp_goto rfl ?_
          exact k
    · have k := k.2 q
      refine sp_aload_n 95 rfl rfl rfl ?_
      refine hq_getR 98 rfl rfl rfl rfl ?_
      refine sp_iload_n 99 rfl rfl rfl ?_
      refine sp_aload_n 100 rfl rfl rfl ?_
      refine hq_getR 103 rfl rfl rfl rfl ?_
      refine sp_iload_n 104 rfl rfl rfl ?_
      refine hq_iald 105 rfl rfl n7_ rfl ?_
      refine sp_if_ne 108 rfl rfl (fun q => ?_) (fun q => ?_)
      · have k := k.2 q
        refine sp_aload_n 118 rfl rfl rfl ?_
        refine hq_getR 121 rfl rfl rfl rfl ?_
        refine sp_aload_n 122 rfl rfl rfl ?_
        refine hq_getR 125 rfl rfl rfl rfl ?_
        refine sp_iload_n 126 rfl rfl rfl ?_
        refine hq_iald 127 rfl rfl n7_ rfl ?_
        have n11_ := k.1
        have k := k.2
        refine hq_iald 128 rfl rfl n11_ rfl ?_
        have n12_ := k.1
        have k := k.2
        refine hq_iast 129 rfl rfl n12_ rfl ?_
        refine sp_iinc 132 rfl rfl rfl rfl ?_
        refine sp_goto rfl ?_
        refine sp_iinc 210 rfl rfl rfl rfl ?_
        refine sp_goto rfl ?_
        exact k
      · have k := k.1 q
        refine sp_aload_n 109 rfl rfl rfl ?_
        refine hq_getR 112 rfl rfl rfl rfl ?_
        refine sp_iload_n 113 rfl rfl rfl ?_
        refine hq_iald 114 rfl rfl n7_ rfl ?_
        refine sp_goto rfl ?_
        have n13_ := k.1
        have k := k.2
        refine hq_iast 129 rfl rfl n13_ rfl ?_
        refine sp_iinc 132 rfl rfl rfl rfl ?_
        refine sp_goto rfl ?_
        refine sp_iinc 210 rfl rfl rfl rfl ?_
        refine sp_goto rfl ?_
        exact k
theorem sg_X11_post {SL : Nat} {xs : Nat → Int32} {d : Nat} {p s q : Nat} {Q : Option Value → mm_H → Prop} {a0 : Int32} {a1 : Int32} {I : Nat → Nat → Int32} {J : Nat → Nat → Int64}  (k : (((sy_X11_isPost a0 I J) = Int32.ofInt 0 → Q (some (.int (Int32.ofInt (-1)))) (hp p s q I J)) ∧ (¬ ((sy_X11_isPost a0 I J) = Int32.ofInt 0) → ((a1 = Int32.ofInt 0 → (vp_in a0 60 ∧ (((I 91 ((a0).toNatClampNeg)) = Int32.ofInt 0 → Q (some (.int (Int32.ofInt 0))) (hp p s q I J)) ∧ (¬ ((I 91 ((a0).toNatClampNeg)) = Int32.ofInt 0) → Q (some (.int (Int32.ofInt 1))) (hp p s q I J))))) ∧ (a1 = Int32.ofInt 1 → (vp_in a0 60 ∧ Q (some (.int (I 87 ((a0).toNatClampNeg)))) (hp p s q I J))) ∧ (a1 = Int32.ofInt 2 → (vp_in a0 60 ∧ Q (some (.int (I 88 ((a0).toNatClampNeg)))) (hp p s q I J))) ∧ (¬ a1 = Int32.ofInt 0 → ¬ a1 = Int32.ofInt 1 → ¬ a1 = Int32.ofInt 2 → Q (some (.int (Int32.ofInt (-1)))) (hp p s q I J)))))) : mm_s SL xs (d + 2) 214 [.ref 65, .int a0, .int a1] (hp p s q I J) Q := by
  refine e_X11_post rfl ?_
  refine sp_aload_n 1 rfl rfl rfl ?_
  refine sp_iload_n 2 rfl rfl rfl ?_
  refine sc_V 5 rfl rfl rfl rfl rfl (Nat.le_refl _) (Nat.le_refl _) rfl ?_
  refine cy_X11_isPost ?_
  refine sp_if_ne 8 rfl rfl (fun q => ?_) (fun q => ?_)
  · have k := k.2 q
    refine sp_iload_n 11 rfl rfl rfl ?_
    by_cases q11_0 : a1 = Int32.ofInt 0
    · have k := k.1 q11_0
      refine sp_table (t := 36) rfl (by rw [q11_0]; rfl) ?_
      refine sp_aload_n 37 rfl rfl rfl ?_
      refine hq_getR 40 rfl rfl rfl rfl ?_
      refine sp_iload_n 41 rfl rfl rfl ?_
      have n1_ := k.1
      have k := k.2
      refine hq_zald 42 rfl rfl n1_ rfl ?_
      refine sp_if_eq 45 rfl rfl (fun q => ?_) (fun q => ?_)
      · have k := k.1 q
        refine sp_iconst 50 rfl rfl ?_
        exact st_iret rfl rfl (Nat.le_refl _) (Nat.le_refl _) k
      · have k := k.2 q
        refine sp_iconst 46 rfl rfl ?_
        refine sp_goto rfl ?_
        exact st_iret rfl rfl (Nat.le_refl _) (Nat.le_refl _) k
    · skip
      by_cases q11_1 : a1 = Int32.ofInt 1
      · have k := k.2.1 q11_1
        refine sp_table (t := 51) rfl (by rw [q11_1]; rfl) ?_
        refine sp_aload_n 52 rfl rfl rfl ?_
        refine hq_getR 55 rfl rfl rfl rfl ?_
        refine sp_iload_n 56 rfl rfl rfl ?_
        have n2_ := k.1
        have k := k.2
        refine hq_iald 57 rfl rfl n2_ rfl ?_
        exact st_iret rfl rfl (Nat.le_refl _) (Nat.le_refl _) k
      · skip
        by_cases q11_2 : a1 = Int32.ofInt 2
        · have k := k.2.2.1 q11_2
          refine sp_table (t := 58) rfl (by rw [q11_2]; rfl) ?_
          refine sp_aload_n 59 rfl rfl rfl ?_
          refine hq_getR 62 rfl rfl rfl rfl ?_
          refine sp_iload_n 63 rfl rfl rfl ?_
          have n3_ := k.1
          have k := k.2
          refine hq_iald 64 rfl rfl n3_ rfl ?_
          exact st_iret rfl rfl (Nat.le_refl _) (Nat.le_refl _) k
        · skip
          have k := k.2.2.2 q11_0 q11_1 q11_2
          refine sp_table (t := 65) rfl (by unfold mm_tab; rw [if_pos (by have := tb_ne q11_0; have := tb_ne q11_1; have := tb_ne q11_2; omega)]; rfl) ?_
          refine sp_iconst 66 rfl rfl ?_
          exact st_iret rfl rfl (Nat.le_refl _) (Nat.le_refl _) k
  · have k := k.1 q
    refine sp_iconst 9 rfl rfl ?_
    exact st_iret rfl rfl (Nat.le_refl _) (Nat.le_refl _) k
theorem sg_X11_far {SL : Nat} {xs : Nat → Int32} {d : Nat} {p s q : Nat} {Q : Option Value → mm_H → Prop} {a0 : Int64} {a1 : Int32} {a2 : Int64} {I : Nat → Nat → Int32} {J : Nat → Nat → Int64}  (k : (((sx_X11_isPlain a0 a1) = Int32.ofInt 0 → Q (some (.long (Int64.ofInt (-1)))) (hp p s q I J)) ∧ (¬ ((sx_X11_isPlain a0 a1) = Int32.ofInt 0) → ((a2 < (Int64.ofInt 1) → Q (some (.long (Int64.ofInt (-1)))) (hp p s q I J)) ∧ (¬ (a2 < (Int64.ofInt 1)) → ((a0 < a2 → Q (some (.long (Int64.ofInt (-1)))) (hp p s q I J)) ∧ (¬ (a0 < a2) → (mm_s SL xs (d + 1) 233 [.long a0, .int a1, .long a2] (hp p s q I J) (fun r_ h_ => ∃ x1 I1 J1, r_ = some (.long x1) ∧ h_ = hp p s q I1 J1 ∧ Q (some (.long x1)) (hp p s q I1 J1)))))))))) : mm_s SL xs (d + 2) 235 [.ref 65, .long a0, .int a1, .long a2] (hp p s q I J) Q := by
  refine e_X11_far rfl ?_
  refine sp_lload_n 1 rfl rfl rfl ?_
  refine sp_iload_n 2 rfl rfl rfl ?_
  refine sc_S 5 rfl rfl rfl rfl (Nat.le_refl _) (Nat.le_refl _) rfl ?_
  refine cx_X11_isPlain ?_
  refine sp_if_eq 8 rfl rfl (fun q => ?_) (fun q => ?_)
  · have k := k.1 q
    refine sp_ldc2 35 rfl rfl ?_
    exact st_lret rfl rfl (Nat.le_refl _) (Nat.le_refl _) k
  · have k := k.2 q
    refine sp_lload 10 rfl rfl rfl ?_
    refine sp_lconst 11 rfl rfl ?_
    refine sp_J (y := Int64.ofInt 1) rfl ?_
    refine sp_lcmp 12 rfl rfl ?_
    refine sp_if_lt 15 rfl rfl (fun q => ?_) (fun q => ?_)
    · have k := k.1 ((lg_cmp_lt _ _).mp q)
      refine sp_ldc2 35 rfl rfl ?_
      exact st_lret rfl rfl (Nat.le_refl _) (Nat.le_refl _) k
    · have k := k.2 (fun z => q ((lg_cmp_lt _ _).mpr z))
      refine sp_lload 17 rfl rfl rfl ?_
      refine sp_lload_n 18 rfl rfl rfl ?_
      refine sp_lcmp 19 rfl rfl ?_
      refine sp_if_gt 22 rfl rfl (fun q => ?_) (fun q => ?_)
      · have k := k.1 ((lg_cmp_gt _ _).mp q)
        refine sp_ldc2 35 rfl rfl ?_
        exact st_lret rfl rfl (Nat.le_refl _) (Nat.le_refl _) k
      · have k := k.2 (fun z => q ((lg_cmp_gt _ _).mpr z))
        refine sp_lload_n 23 rfl rfl rfl ?_
        refine sp_iload_n 24 rfl rfl rfl ?_
        refine sp_lload 26 rfl rfl rfl ?_
        refine sc_S 29 rfl rfl rfl rfl (Nat.le_refl _) (Nat.le_refl _) rfl ?_
        refine mm_s_mono _ _ _ _ _ _ ?_ k
        rintro r_ h_ ⟨x1, I1, J1, rfl, rfl, k⟩
        refine sp_goto rfl ?_
        exact st_lret rfl rfl (Nat.le_refl _) (Nat.le_refl _) k
def w_X11_at_32 (SL : Nat) (xs : Nat → Int32) (d : Nat) (p s q : Nat) (Q : Option Value → mm_H → Prop) (v1 : Int64) (v3 : Int32) (v4 : Int64) (v6 : Int64) (I : Nat → Nat → Int32) (J : Nat → Nat → Int64) : Prop := mm_w SL xs (mm_s SL xs (d + 1)) mm_am kX11_at 0 0 (some .long) Q 32 [some (.ref 65), some (.long v1), none, some (.int v3), some (.long v4), none, some (.long v6), none] [] (hp p s q I J) 0 0
theorem sg_X11_at {SL : Nat} {xs : Nat → Int32} {d : Nat} {p s q : Nat} {Q : Option Value → mm_H → Prop} {a0 : Int64} {a1 : Int32} {a2 : Int64} {I : Nat → Nat → Int32} {J : Nat → Nat → Int64}  (k : (((sx_X11_isPlain a0 a1) = Int32.ofInt 0 → Q (some (.long (Int64.ofInt (-1)))) (hp p s q I J)) ∧ (¬ ((sx_X11_isPlain a0 a1) = Int32.ofInt 0) → ((a2 < (Int64.ofInt 0) → Q (some (.long (Int64.ofInt (-1)))) (hp p s q I J)) ∧ (¬ (a2 < (Int64.ofInt 0)) → ((a2 < a0 → w_X11_at_32 SL xs d p s q Q a0 a1 a2 (a2 + (Int64.ofInt 1)) I J) ∧ (¬ (a2 < a0) → Q (some (.long (Int64.ofInt (-1)))) (hp p s q I J)))))))) : mm_s SL xs (d + 2) 236 [.ref 65, .long a0, .int a1, .long a2] (hp p s q I J) Q := by
  refine e_X11_at rfl ?_
  refine sp_lload_n 1 rfl rfl rfl ?_
  refine sp_iload_n 2 rfl rfl rfl ?_
  refine sc_S 5 rfl rfl rfl rfl (Nat.le_refl _) (Nat.le_refl _) rfl ?_
  refine cx_X11_isPlain ?_
  refine sp_if_eq 8 rfl rfl (fun q => ?_) (fun q => ?_)
  · have k := k.1 q
    refine sp_ldc2 25 rfl rfl ?_
    exact st_lret rfl rfl (Nat.le_refl _) (Nat.le_refl _) k
  · have k := k.2 q
    refine sp_lload 10 rfl rfl rfl ?_
    refine sp_lconst 11 rfl rfl ?_
    refine sp_J (y := Int64.ofInt 0) rfl ?_
    refine sp_lcmp 12 rfl rfl ?_
    refine sp_if_lt 15 rfl rfl (fun q => ?_) (fun q => ?_)
    · have k := k.1 ((lg_cmp_lt _ _).mp q)
      refine sp_ldc2 25 rfl rfl ?_
      exact st_lret rfl rfl (Nat.le_refl _) (Nat.le_refl _) k
    · have k := k.2 (fun z => q ((lg_cmp_lt _ _).mpr z))
      refine sp_lload 17 rfl rfl rfl ?_
      refine sp_lload_n 18 rfl rfl rfl ?_
      refine sp_lcmp 19 rfl rfl ?_
      refine sp_if_lt 22 rfl rfl (fun q => ?_) (fun q => ?_)
      · have k := k.1 ((lg_cmp_lt _ _).mp q)
        refine sp_lload 28 rfl rfl rfl ?_
        refine sp_lconst 29 rfl rfl ?_
        refine sp_J (y := Int64.ofInt 1) rfl ?_
        refine sp_ladd 30 rfl rfl ?_
        refine sp_lstore 32 rfl rfl rfl ?_
        exact k
      · have k := k.2 (fun z => q ((lg_cmp_lt _ _).mpr z))
        refine sp_ldc2 25 rfl rfl ?_
        exact st_lret rfl rfl (Nat.le_refl _) (Nat.le_refl _) k
theorem sg_X11_at_32 {SL : Nat} {xs : Nat → Int32} {d : Nat} {p s q : Nat} {Q : Option Value → mm_H → Prop} {v1 : Int64} {v3 : Int32} {v4 : Int64} {v6 : Int64} {I : Nat → Nat → Int32} {J : Nat → Nat → Int64}  (k : (¬ ((v3).toInt64) = 0 ∧ (((v6 - v6 / ((v3).toInt64) * ((v3).toInt64)) = (Int64.ofInt 0) → Q (some (.long (v6 / ((v3).toInt64)))) (hp p s q I J)) ∧ (¬ ((v6 - v6 / ((v3).toInt64) * ((v3).toInt64)) = (Int64.ofInt 0)) → w_X11_at_32 SL xs d p s q Q v1 v3 v4 ((v6 + v1) - (v6 / ((v3).toInt64))) I J)))) : w_X11_at_32 SL xs d p s q Q v1 v3 v4 v6 I J := by
  unfold w_X11_at_32
  refine sp_lload 34 rfl rfl rfl ?_
  refine sp_iload_n 35 rfl rfl rfl ?_
  refine sp_i2l 36 rfl rfl ?_
  have n1_ := k.1
  have k := k.2
  refine sp_lrem 37 rfl n1_ rfl ?_
  refine sp_lconst 38 rfl rfl ?_
  refine sp_J (y := Int64.ofInt 0) rfl ?_
  refine sp_lcmp 39 rfl rfl ?_
  refine sp_if_eq 42 rfl rfl (fun q => ?_) (fun q => ?_)
  · have k := k.1 ((lg_cmp_eq _ _).mp q)
    refine sp_lload 59 rfl rfl rfl ?_
    refine sp_iload_n 60 rfl rfl rfl ?_
    refine sp_i2l 61 rfl rfl ?_
    refine sp_ldiv 62 rfl n1_ rfl ?_
    exact st_lret rfl rfl (Nat.le_refl _) (Nat.le_refl _) k
  · have k := k.2 (fun z => q ((lg_cmp_eq _ _).mpr z))
    refine sp_lload 44 rfl rfl rfl ?_
    refine sp_lload_n 45 rfl rfl rfl ?_
    refine sp_ladd 46 rfl rfl ?_
    refine sp_lload 48 rfl rfl rfl ?_
    refine sp_iload_n 49 rfl rfl rfl ?_
    refine sp_i2l 50 rfl rfl ?_
    refine sp_ldiv 51 rfl n1_ rfl ?_
    refine sp_lsub 52 rfl rfl ?_
    refine sp_lstore 54 rfl rfl rfl ?_
    refine sp_goto rfl ?_
    exact k
def w_X11_areThose_7 (SL : Nat) (xs : Nat → Int32) (d : Nat) (p s q : Nat) (Q : Option Value → mm_H → Prop) (v0 : Int32) (v1 : Int32) (v2 : Int64) (v4 : Int32) (v5 : Int32) (v6 : Int32) (v7 : Int32) (I : Nat → Nat → Int32) (J : Nat → Nat → Int64) : Prop := mm_w SL xs (mm_s SL xs (d + 1)) mm_am kX11_areThose 0 0 (some .boolean) Q 7 [some (.int v0), some (.int v1), some (.long v2), none, some (.int v4), some (.int v5), some (.int v6), some (.int v7)] [] (hp p s q I J) 0 0
theorem sg_X11_areThose {SL : Nat} {xs : Nat → Int32} {d : Nat} {p s q : Nat} {Q : Option Value → mm_H → Prop} {a0 : Int32} {a1 : Int32} {a2 : Int64} {a3 : Int32} {a4 : Int32} {I : Nat → Nat → Int32} {J : Nat → Nat → Int64}  (k : w_X11_areThose_7 SL xs d p s q Q a0 a1 a2 a3 a4 (Int32.ofInt 1) a3 I J) : mm_s SL xs (d + 2) 240 [.int a0, .int a1, .long a2, .int a3, .int a4] (hp p s q I J) Q := by
  refine e_X11_areThose rfl ?_
  refine sp_iconst 1 rfl rfl ?_
  refine sp_istore 3 rfl rfl rfl ?_
  refine sp_iload 5 rfl rfl rfl ?_
  refine sp_istore 7 rfl rfl rfl ?_
  exact k
theorem sg_X11_areThose_7 {SL : Nat} {xs : Nat → Int32} {d : Nat} {p s q : Nat} {Q : Option Value → mm_H → Prop} {v0 : Int32} {v1 : Int32} {v2 : Int64} {v4 : Int32} {v5 : Int32} {v6 : Int32} {v7 : Int32} {I : Nat → Nat → Int32} {J : Nat → Nat → Int64}  (k : ((v5 < v7 → ((v6 = 0 ∨ v6 = 1) ∧ Q (some (.int v6)) (hp p s q I J))) ∧ (¬ (v5 < v7) → ((v6 = Int32.ofInt 0 → ((v6 = 0 ∨ v6 = 1) ∧ Q (some (.int v6)) (hp p s q I J))) ∧ (¬ (v6 = Int32.ofInt 0) → (mm_s SL xs (d + 1) 233 [.long ((v0).toInt64), .int v1, .long ((v7).toInt64)] (hp p s q I J) (fun r_ h_ => ∃ x1 I1 J1, r_ = some (.long x1) ∧ h_ = hp p s q I1 J1 ∧ ((((v2 >>> (((x1).toInt32).toInt64 &&& 63)) &&& (Int64.ofInt 1)) = (Int64.ofInt 1) → w_X11_areThose_7 SL xs d p s q Q v0 v1 v2 v4 v5 (Int32.ofInt 1) (v7 + Int32.ofInt 1) I1 J1) ∧ (¬ (((v2 >>> (((x1).toInt32).toInt64 &&& 63)) &&& (Int64.ofInt 1)) = (Int64.ofInt 1)) → w_X11_areThose_7 SL xs d p s q Q v0 v1 v2 v4 v5 (Int32.ofInt 0) (v7 + Int32.ofInt 1) I1 J1))))))))) : w_X11_areThose_7 SL xs d p s q Q v0 v1 v2 v4 v5 v6 v7 I J := by
  unfold w_X11_areThose_7
  refine sp_iload 9 rfl rfl rfl ?_
  refine sp_iload 11 rfl rfl rfl ?_
  refine sp_ic_gt 14 rfl rfl (fun q => ?_) (fun q => ?_)
  · have k := k.1 q
    refine sp_iload 53 rfl rfl rfl ?_
    exact st_zret rfl rfl k.1 (Nat.le_refl _) (Nat.le_refl _) k.2
  · have k := k.2 q
    refine sp_iload 16 rfl rfl rfl ?_
    refine sp_if_eq 19 rfl rfl (fun q => ?_) (fun q => ?_)
    · have k := k.1 q
      refine sp_iload 53 rfl rfl rfl ?_
      exact st_zret rfl rfl k.1 (Nat.le_refl _) (Nat.le_refl _) k.2
    · have k := k.2 q
      refine sp_lload_n 20 rfl rfl rfl ?_
      refine sp_iload_n 21 rfl rfl rfl ?_
      refine sp_i2l 22 rfl rfl ?_
      refine sp_iload_n 23 rfl rfl rfl ?_
      refine sp_iload 25 rfl rfl rfl ?_
      refine sp_i2l 26 rfl rfl ?_
      refine sc_S 29 rfl rfl rfl rfl (Nat.le_refl _) (Nat.le_refl _) rfl ?_
      refine mm_s_mono _ _ _ _ _ _ ?_ k
      rintro r_ h_ ⟨x1, I1, J1, rfl, rfl, k⟩
      refine sp_l2i 30 rfl rfl ?_
      refine sp_lshr 31 rfl rfl ?_
      refine sp_lconst 32 rfl rfl ?_
      refine sp_J (y := Int64.ofInt 1) rfl ?_
      refine sp_land 33 rfl rfl ?_
      refine sp_lconst 34 rfl rfl ?_
      refine sp_J (y := Int64.ofInt 1) rfl ?_
      refine sp_lcmp 35 rfl rfl ?_
      refine sp_if_ne 38 rfl rfl (fun q => ?_) (fun q => ?_)
      · have k := k.2 (fun z => q ((lg_cmp_eq _ _).mpr z))
        refine sp_iconst 43 rfl rfl ?_
        refine sp_istore 45 rfl rfl rfl ?_
        refine sp_iinc 48 rfl rfl rfl rfl ?_
        refine sp_goto rfl ?_
        exact k
      · have k := k.1 ((lg_cmp_eq _ _).mp q)
        refine sp_iconst 39 rfl rfl ?_
        refine sp_goto rfl ?_
        refine sp_istore 45 rfl rfl rfl ?_
        refine sp_iinc 48 rfl rfl rfl rfl ?_
        refine sp_goto rfl ?_
        exact k
def w_X11_number_20 (SL : Nat) (xs : Nat → Int32) (d : Nat) (p s q : Nat) (Q : Option Value → mm_H → Prop) (v1 : Int32) (v2 : Int32) (I : Nat → Nat → Int32) (J : Nat → Nat → Int64) : Prop := mm_w SL xs (mm_s SL xs (d + 1)) mm_am kX11_number 0 0 (some .long) Q 20 [some (.ref 65), some (.int v1), some (.int v2), none, none, none, none, none, none, none, none, none] [] (hp p s q I J) 0 0
def w_X11_number_80 (SL : Nat) (xs : Nat → Int32) (d : Nat) (p s q : Nat) (Q : Option Value → mm_H → Prop) (v1 : Int32) (v2 : Int32) (v3 : Int64) (v5 : Int64) (v7 : Int32) (v8 : Int32) (I : Nat → Nat → Int32) (J : Nat → Nat → Int64) : Prop := mm_w SL xs (mm_s SL xs (d + 1)) mm_am kX11_number 0 0 (some .long) Q 80 [some (.ref 65), some (.int v1), some (.int v2), some (.long v3), none, some (.long v5), none, some (.int v7), some (.int v8), none, none, none] [] (hp p s q I J) 0 0
def w_X11_number_130 (SL : Nat) (xs : Nat → Int32) (d : Nat) (p s q : Nat) (Q : Option Value → mm_H → Prop) (v1 : Int32) (v2 : Int32) (v3 : Int64) (v5 : Int64) (v7 : Int32) (v8 : Int32) (v9 : Int32) (v10 : Int32) (v11 : Int32) (I : Nat → Nat → Int32) (J : Nat → Nat → Int64) : Prop := mm_w SL xs (mm_s SL xs (d + 1)) mm_am kX11_number 0 0 (some .long) Q 130 [some (.ref 65), some (.int v1), some (.int v2), some (.long v3), none, some (.long v5), none, some (.int v7), some (.int v8), some (.int v9), some (.int v10), some (.int v11)] [] (hp p s q I J) 0 0
theorem sg_X11_number {SL : Nat} {xs : Nat → Int32} {d : Nat} {p s q : Nat} {Q : Option Value → mm_H → Prop} {a0 : Int32} {I : Nat → Nat → Int32} {J : Nat → Nat → Int64}  (k : (((sx_X11_isSmall a0) = Int32.ofInt 0 → Q (some (.long (Int64.ofInt (-1)))) (hp p s q I J)) ∧ (¬ ((sx_X11_isSmall a0) = Int32.ofInt 0) → (((I 65 80) = Int32.ofInt 0 → Q (some (.long (Int64.ofInt (-1)))) (hp p s q I J)) ∧ (¬ ((I 65 80) = Int32.ofInt 0) → w_X11_number_20 SL xs d p s q Q a0 (Int32.ofInt 0) I J))))) : mm_s SL xs (d + 2) 245 [.ref 65, .int a0] (hp p s q I J) Q := by
  refine e_X11_number rfl ?_
  refine sp_iload_n 1 rfl rfl rfl ?_
  refine sc_S 4 rfl rfl rfl rfl (Nat.le_refl _) (Nat.le_refl _) rfl ?_
  refine cx_X11_isSmall ?_
  refine sp_if_eq 7 rfl rfl (fun q => ?_) (fun q => ?_)
  · have k := k.1 q
    refine sp_ldc2 17 rfl rfl ?_
    exact st_lret rfl rfl (Nat.le_refl _) (Nat.le_refl _) k
  · have k := k.2 q
    refine sp_aload_n 8 rfl rfl rfl ?_
    refine hq_getI 11 rfl rfl rfl ?_
    refine sp_if_ne 14 rfl rfl (fun q => ?_) (fun q => ?_)
    · have k := k.2 q
      refine sp_iconst 19 rfl rfl ?_
      refine sp_istore_n 20 rfl rfl rfl ?_
      exact k
    · have k := k.1 q
      refine sp_ldc2 17 rfl rfl ?_
      exact st_lret rfl rfl (Nat.le_refl _) (Nat.le_refl _) k
theorem sg_X11_number_20 {SL : Nat} {xs : Nat → Int32} {d : Nat} {p s q : Nat} {Q : Option Value → mm_H → Prop} {v1 : Int32} {v2 : Int32} {I : Nat → Nat → Int32} {J : Nat → Nat → Int64}  (k : (((Int32.ofInt 60) ≤ v2 → (((Int32.ofInt 8) ≤ (I 65 80) → w_X11_number_80 SL xs d p s q Q v1 (Int32.ofInt 8) (Int64.ofInt 0) (Int64.ofInt 1) (v1 - (Int32.ofInt 1)) (Int32.ofInt 0) I J) ∧ (¬ ((Int32.ofInt 8) ≤ (I 65 80)) → w_X11_number_80 SL xs d p s q Q v1 (I 65 80) (Int64.ofInt 0) (Int64.ofInt 1) (v1 - (Int32.ofInt 1)) (Int32.ofInt 0) I J))) ∧ (¬ ((Int32.ofInt 60) ≤ v2) → ((v1 ≤ v2 → (vp_in v2 60 ∧ w_X11_number_20 SL xs d p s q Q v1 (v2 + Int32.ofInt 1) (mm_u I 98 ((v2).toNatClampNeg) (Int32.ofInt 0)) J)) ∧ (¬ (v1 ≤ v2) → (vp_in v2 60 ∧ w_X11_number_20 SL xs d p s q Q v1 (v2 + Int32.ofInt 1) (mm_u I 98 ((v2).toNatClampNeg) (Int32.ofInt 1)) J)))))) : w_X11_number_20 SL xs d p s q Q v1 v2 I J := by
  unfold w_X11_number_20
  refine sp_iload_n 21 rfl rfl rfl ?_
  refine sp_bipush 23 rfl rfl ?_
  refine sp_I (y := Int32.ofInt 60) rfl ?_
  refine sp_ic_ge 26 rfl rfl (fun q => ?_) (fun q => ?_)
  · have k := k.1 q
    refine sp_aload_n 49 rfl rfl rfl ?_
    refine hq_getI 52 rfl rfl rfl ?_
    refine sp_bipush 54 rfl rfl ?_
    refine sp_I (y := Int32.ofInt 8) rfl ?_
    refine sp_ic_ge 57 rfl rfl (fun q => ?_) (fun q => ?_)
    · have k := k.1 q
      refine sp_bipush 66 rfl rfl ?_
      refine sp_I (y := Int32.ofInt 8) rfl ?_
      refine sp_istore_n 67 rfl rfl rfl ?_
      refine sp_lconst 68 rfl rfl ?_
      refine sp_J (y := Int64.ofInt 0) rfl ?_
      refine sp_lstore_n 69 rfl rfl rfl ?_
      refine sp_lconst 70 rfl rfl ?_
      refine sp_J (y := Int64.ofInt 1) rfl ?_
      refine sp_lstore 72 rfl rfl rfl ?_
      refine sp_iload_n 73 rfl rfl rfl ?_
      refine sp_iconst 74 rfl rfl ?_
      refine sp_isub 75 rfl rfl ?_
      refine sp_istore 77 rfl rfl rfl ?_
      refine sp_iconst 78 rfl rfl ?_
      refine sp_istore 80 rfl rfl rfl ?_
      exact k
    · have k := k.2 q
      refine sp_aload_n 58 rfl rfl rfl ?_
      refine hq_getI 61 rfl rfl rfl ?_
      refine sp_goto rfl ?_
      refine sp_istore_n 67 rfl rfl rfl ?_
      refine sp_lconst 68 rfl rfl ?_
      refine sp_J (y := Int64.ofInt 0) rfl ?_
      refine sp_lstore_n 69 rfl rfl rfl ?_
      refine sp_lconst 70 rfl rfl ?_
      refine sp_J (y := Int64.ofInt 1) rfl ?_
      refine sp_lstore 72 rfl rfl rfl ?_
      refine sp_iload_n 73 rfl rfl rfl ?_
      refine sp_iconst 74 rfl rfl ?_
      refine sp_isub 75 rfl rfl ?_
      refine sp_istore 77 rfl rfl rfl ?_
      refine sp_iconst 78 rfl rfl ?_
      refine sp_istore 80 rfl rfl rfl ?_
      exact k
  · have k := k.2 q
    refine sp_aload_n 27 rfl rfl rfl ?_
    refine hq_getR 30 rfl rfl rfl rfl ?_
    refine sp_iload_n 31 rfl rfl rfl ?_
    refine sp_iload_n 32 rfl rfl rfl ?_
    refine sp_iload_n 33 rfl rfl rfl ?_
    refine sp_ic_ge 36 rfl rfl (fun q => ?_) (fun q => ?_)
    · have k := k.1 q
      refine sp_iconst 41 rfl rfl ?_
      have n1_ := k.1
      have k := k.2
      refine hq_zast 42 rfl rfl n1_ (by decide) rfl ?_
      refine sp_iinc 45 rfl rfl rfl rfl ?_
      refine sp_goto rfl ?_
      exact k
    · have k := k.2 q
      refine sp_iconst 37 rfl rfl ?_
      refine sp_goto rfl ?_
      have n2_ := k.1
      have k := k.2
      refine hq_zast 42 rfl rfl n2_ (by decide) rfl ?_
      refine sp_iinc 45 rfl rfl rfl rfl ?_
      refine sp_goto rfl ?_
      exact k
theorem sg_X11_number_80 {SL : Nat} {xs : Nat → Int32} {d : Nat} {p s q : Nat} {Q : Option Value → mm_H → Prop} {v1 : Int32} {v2 : Int32} {v3 : Int64} {v5 : Int64} {v7 : Int32} {v8 : Int32} {I : Nat → Nat → Int32} {J : Nat → Nat → Int64}  (k : ((v2 ≤ v8 → ((v3 = (Int64.ofInt 0) → Q (some (.long v5)) (hp p s q I J)) ∧ (¬ (v3 = (Int64.ofInt 0)) → Q (some (.long v3)) (hp p s q I J)))) ∧ (¬ (v2 ≤ v8) → (((Int32.ofInt 1) ≤ (v1 - v8) → (vp_in v8 60 ∧ (mm_s SL xs (d + 1) 244 [.ref 65, .int v1, .int v7, .int (I 97 ((v8).toNatClampNeg))] (hp p s q I J) (fun r_ h_ => ∃ x1 I1 J1, r_ = some (.int x1) ∧ h_ = hp p s q I1 J1 ∧ ((x1 = Int32.ofInt 0 → Q (some (.long (Int64.ofInt (-1)))) (hp p s q I1 J1)) ∧ (¬ (x1 = Int32.ofInt 0) → w_X11_number_130 SL xs d p s q Q v1 v2 v3 v5 v7 v8 (v1 - v8) x1 (Int32.ofInt 0) I1 J1)))))) ∧ (¬ ((Int32.ofInt 1) ≤ (v1 - v8)) → Q (some (.long (Int64.ofInt (-1)))) (hp p s q I J)))))) : w_X11_number_80 SL xs d p s q Q v1 v2 v3 v5 v7 v8 I J := by
  unfold w_X11_number_80
  refine sp_iload 82 rfl rfl rfl ?_
  refine sp_iload_n 83 rfl rfl rfl ?_
  refine sp_ic_ge 86 rfl rfl (fun q => ?_) (fun q => ?_)
  · have k := k.1 q
    refine sp_lload_n 231 rfl rfl rfl ?_
    refine sp_lconst 232 rfl rfl ?_
    refine sp_J (y := Int64.ofInt 0) rfl ?_
    refine sp_lcmp 233 rfl rfl ?_
    refine sp_if_ne 236 rfl rfl (fun q => ?_) (fun q => ?_)
    · have k := k.2 (fun z => q ((lg_cmp_eq _ _).mpr z))
      refine sp_lload_n 242 rfl rfl rfl ?_
      exact st_lret rfl rfl (Nat.le_refl _) (Nat.le_refl _) k
    · have k := k.1 ((lg_cmp_eq _ _).mp q)
      refine sp_lload 238 rfl rfl rfl ?_
      refine sp_goto rfl ?_
      exact st_lret rfl rfl (Nat.le_refl _) (Nat.le_refl _) k
  · have k := k.2 q
    refine sp_iload_n 87 rfl rfl rfl ?_
    refine sp_iload 89 rfl rfl rfl ?_
    refine sp_isub 90 rfl rfl ?_
    refine sp_istore 92 rfl rfl rfl ?_
    refine sp_iload 94 rfl rfl rfl ?_
    refine sp_iconst 95 rfl rfl ?_
    refine sp_ic_ge 98 rfl rfl (fun q => ?_) (fun q => ?_)
    · have k := k.1 q
      refine sp_aload_n 103 rfl rfl rfl ?_
      refine sp_iload_n 104 rfl rfl rfl ?_
      refine sp_iload 106 rfl rfl rfl ?_
      refine sp_aload_n 107 rfl rfl rfl ?_
      refine hq_getR 110 rfl rfl rfl rfl ?_
      refine sp_iload 112 rfl rfl rfl ?_
      have n3_ := k.1
      have k := k.2
      refine hq_iald 113 rfl rfl n3_ rfl ?_
      refine sc_V 116 rfl rfl rfl rfl rfl (Nat.le_refl _) (Nat.le_refl _) rfl ?_
      refine mm_s_mono _ _ _ _ _ _ ?_ k
      rintro r_ h_ ⟨x1, I1, J1, rfl, rfl, k⟩
      refine sp_istore 118 rfl rfl rfl ?_
      refine sp_iload 120 rfl rfl rfl ?_
      refine sp_if_ne 123 rfl rfl (fun q => ?_) (fun q => ?_)
      · have k := k.2 q
        refine sp_iconst 128 rfl rfl ?_
        refine sp_istore 130 rfl rfl rfl ?_
        exact k
      · have k := k.1 q
        refine sp_ldc2 126 rfl rfl ?_
        exact st_lret rfl rfl (Nat.le_refl _) (Nat.le_refl _) k
    · have k := k.2 q
      refine sp_iconst 99 rfl rfl ?_
      refine sp_goto rfl ?_
      refine sp_istore 118 rfl rfl rfl ?_
      refine sp_iload 120 rfl rfl rfl ?_
      refine sp_if_ne 123 rfl rfl (fun q => absurd q (by decide)) (fun _ => ?_)
      refine sp_ldc2 126 rfl rfl ?_
      exact st_lret rfl rfl (Nat.le_refl _) (Nat.le_refl _) k
theorem sg_X11_number_130 {SL : Nat} {xs : Nat → Int32} {d : Nat} {p s q : Nat} {Q : Option Value → mm_H → Prop} {v1 : Int32} {v2 : Int32} {v3 : Int64} {v5 : Int64} {v7 : Int32} {v8 : Int32} {v9 : Int32} {v10 : Int32} {v11 : Int32} {I : Nat → Nat → Int32} {J : Nat → Nat → Int64}  (k : ((v9 ≤ v11 → ((v11 = v9 → Q (some (.long (Int64.ofInt (-1)))) (hp p s q I J)) ∧ (¬ (v11 = v9) → (mm_s SL xs (d + 1) 243 [.long v5, .long ((v9).toInt64)] (hp p s q I J) (fun r_ h_ => ∃ x1 I1 J1, r_ = some (.long x1) ∧ h_ = hp p s q I1 J1 ∧ (¬ x1 = 0 ∧ (¬ ((v5 / x1) * ((v9).toInt64)) = 0 ∧ (vp_in v8 60 ∧ (vp_in (I1 97 ((v8).toNatClampNeg)) 60 ∧ w_X11_number_80 SL xs d p s q Q v1 v2 ((v3 + (((v11).toInt64) * v5)) - (v3 + (((v11).toInt64) * v5)) / ((v5 / x1) * ((v9).toInt64)) * ((v5 / x1) * ((v9).toInt64))) ((v5 / x1) * ((v9).toInt64)) (I1 97 ((v8).toNatClampNeg)) (v8 + Int32.ofInt 1) (mm_u I1 98 (((I1 97 ((v8).toNatClampNeg))).toNatClampNeg) (Int32.ofInt 0)) J1))))))))) ∧ (¬ (v9 ≤ v11) → (¬ ((v9).toInt64) = 0 ∧ (¬ v9 = 0 ∧ ((((v3 + (((v11).toInt64) * v5)) - (v3 + (((v11).toInt64) * v5)) / ((v9).toInt64) * ((v9).toInt64)) = (((v10 - v10 / v9 * v9)).toInt64) → ((v11 = v9 → Q (some (.long (Int64.ofInt (-1)))) (hp p s q I J)) ∧ (¬ (v11 = v9) → (mm_s SL xs (d + 1) 243 [.long v5, .long ((v9).toInt64)] (hp p s q I J) (fun r_ h_ => ∃ x2 I2 J2, r_ = some (.long x2) ∧ h_ = hp p s q I2 J2 ∧ (¬ x2 = 0 ∧ (¬ ((v5 / x2) * ((v9).toInt64)) = 0 ∧ (vp_in v8 60 ∧ (vp_in (I2 97 ((v8).toNatClampNeg)) 60 ∧ w_X11_number_80 SL xs d p s q Q v1 v2 ((v3 + (((v11).toInt64) * v5)) - (v3 + (((v11).toInt64) * v5)) / ((v5 / x2) * ((v9).toInt64)) * ((v5 / x2) * ((v9).toInt64))) ((v5 / x2) * ((v9).toInt64)) (I2 97 ((v8).toNatClampNeg)) (v8 + Int32.ofInt 1) (mm_u I2 98 (((I2 97 ((v8).toNatClampNeg))).toNatClampNeg) (Int32.ofInt 0)) J2))))))))) ∧ (¬ (((v3 + (((v11).toInt64) * v5)) - (v3 + (((v11).toInt64) * v5)) / ((v9).toInt64) * ((v9).toInt64)) = (((v10 - v10 / v9 * v9)).toInt64)) → w_X11_number_130 SL xs d p s q Q v1 v2 v3 v5 v7 v8 v9 v10 (v11 + Int32.ofInt 1) I J))))))) : w_X11_number_130 SL xs d p s q Q v1 v2 v3 v5 v7 v8 v9 v10 v11 I J := by
  unfold w_X11_number_130
  refine sp_iload 132 rfl rfl rfl ?_
  refine sp_iload 134 rfl rfl rfl ?_
  refine sp_ic_ge 137 rfl rfl (fun q => ?_) (fun q => ?_)
  · have k := k.1 q
    refine sp_iload 167 rfl rfl rfl ?_
    refine sp_iload 169 rfl rfl rfl ?_
    refine sp_ic_ne 172 rfl rfl (fun q => ?_) (fun q => ?_)
    · have k := k.2 q
      refine sp_lload_n 177 rfl rfl rfl ?_
      refine sp_iload 179 rfl rfl rfl ?_
      refine sp_i2l 180 rfl rfl ?_
      refine sp_lload 182 rfl rfl rfl ?_
      refine sp_lmul 183 rfl rfl ?_
      refine sp_ladd 184 rfl rfl ?_
      refine sp_lstore_n 185 rfl rfl rfl ?_
      refine sp_lload 187 rfl rfl rfl ?_
      refine sp_lload 189 rfl rfl rfl ?_
      refine sp_iload 191 rfl rfl rfl ?_
      refine sp_i2l 192 rfl rfl ?_
      refine sc_S 195 rfl rfl rfl rfl (Nat.le_refl _) (Nat.le_refl _) rfl ?_
      refine mm_s_mono _ _ _ _ _ _ ?_ k
      rintro r_ h_ ⟨x1, I1, J1, rfl, rfl, k⟩
      have n4_ := k.1
      have k := k.2
      refine sp_ldiv 196 rfl n4_ rfl ?_
      refine sp_iload 198 rfl rfl rfl ?_
      refine sp_i2l 199 rfl rfl ?_
      refine sp_lmul 200 rfl rfl ?_
      refine sp_lstore 202 rfl rfl rfl ?_
      refine sp_lload_n 203 rfl rfl rfl ?_
      refine sp_lload 205 rfl rfl rfl ?_
      have n5_ := k.1
      have k := k.2
      refine sp_lrem 206 rfl n5_ rfl ?_
      refine sp_lstore_n 207 rfl rfl rfl ?_
      refine sp_aload_n 208 rfl rfl rfl ?_
      refine hq_getR 211 rfl rfl rfl rfl ?_
      refine sp_iload 213 rfl rfl rfl ?_
      have n6_ := k.1
      have k := k.2
      refine hq_iald 214 rfl rfl n6_ rfl ?_
      refine sp_istore 216 rfl rfl rfl ?_
      refine sp_aload_n 217 rfl rfl rfl ?_
      refine hq_getR 220 rfl rfl rfl rfl ?_
      refine sp_iload 222 rfl rfl rfl ?_
      refine sp_iconst 223 rfl rfl ?_
      have n7_ := k.1
      have k := k.2
      refine hq_zast 224 rfl rfl n7_ (by decide) rfl ?_
      refine sp_iinc 227 rfl rfl rfl rfl ?_
      refine sp_goto rfl ?_
      refine st_wk (L1 := [some (.ref 65), some (.int v1), some (.int v2), some (.long ((v3 + (((v11).toInt64) * v5)) - (v3 + (((v11).toInt64) * v5)) / ((v5 / x1) * ((v9).toInt64)) * ((v5 / x1) * ((v9).toInt64)))), none, some (.long ((v5 / x1) * ((v9).toInt64))), none, some (.int (I1 97 ((v8).toNatClampNeg))), some (.int (v8 + Int32.ofInt 1)), none, none, none]) ⟨.inr rfl, .inr rfl, .inr rfl, .inr rfl, .inl rfl, .inr rfl, .inl rfl, .inr rfl, .inr rfl, .inl rfl, .inl rfl, .inl rfl, trivial⟩ ?_
      exact k
    · have k := k.1 q
      refine sp_ldc2 175 rfl rfl ?_
      exact st_lret rfl rfl (Nat.le_refl _) (Nat.le_refl _) k
  · have k := k.2 q
    refine sp_lload_n 138 rfl rfl rfl ?_
    refine sp_iload 140 rfl rfl rfl ?_
    refine sp_i2l 141 rfl rfl ?_
    refine sp_lload 143 rfl rfl rfl ?_
    refine sp_lmul 144 rfl rfl ?_
    refine sp_ladd 145 rfl rfl ?_
    refine sp_iload 147 rfl rfl rfl ?_
    refine sp_i2l 148 rfl rfl ?_
    have n8_ := k.1
    have k := k.2
    refine sp_lrem 149 rfl n8_ rfl ?_
    refine sp_iload 151 rfl rfl rfl ?_
    refine sp_iload 153 rfl rfl rfl ?_
    have n9_ := k.1
    have k := k.2
    refine sp_irem 154 rfl n9_ rfl ?_
    refine sp_i2l 155 rfl rfl ?_
    refine sp_lcmp 156 rfl rfl ?_
    refine sp_if_eq 159 rfl rfl (fun q => ?_) (fun q => ?_)
    · have k := k.1 ((lg_cmp_eq _ _).mp q)
      refine sp_iload 167 rfl rfl rfl ?_
      refine sp_iload 169 rfl rfl rfl ?_
      refine sp_ic_ne 172 rfl rfl (fun q => ?_) (fun q => ?_)
      · have k := k.2 q
        refine sp_lload_n 177 rfl rfl rfl ?_
        refine sp_iload 179 rfl rfl rfl ?_
        refine sp_i2l 180 rfl rfl ?_
        refine sp_lload 182 rfl rfl rfl ?_
        refine sp_lmul 183 rfl rfl ?_
        refine sp_ladd 184 rfl rfl ?_
        refine sp_lstore_n 185 rfl rfl rfl ?_
        refine sp_lload 187 rfl rfl rfl ?_
        refine sp_lload 189 rfl rfl rfl ?_
        refine sp_iload 191 rfl rfl rfl ?_
        refine sp_i2l 192 rfl rfl ?_
        refine sc_S 195 rfl rfl rfl rfl (Nat.le_refl _) (Nat.le_refl _) rfl ?_
        refine mm_s_mono _ _ _ _ _ _ ?_ k
        rintro r_ h_ ⟨x2, I2, J2, rfl, rfl, k⟩
        have n10_ := k.1
        have k := k.2
        refine sp_ldiv 196 rfl n10_ rfl ?_
        refine sp_iload 198 rfl rfl rfl ?_
        refine sp_i2l 199 rfl rfl ?_
        refine sp_lmul 200 rfl rfl ?_
        refine sp_lstore 202 rfl rfl rfl ?_
        refine sp_lload_n 203 rfl rfl rfl ?_
        refine sp_lload 205 rfl rfl rfl ?_
        have n11_ := k.1
        have k := k.2
        refine sp_lrem 206 rfl n11_ rfl ?_
        refine sp_lstore_n 207 rfl rfl rfl ?_
        refine sp_aload_n 208 rfl rfl rfl ?_
        refine hq_getR 211 rfl rfl rfl rfl ?_
        refine sp_iload 213 rfl rfl rfl ?_
        have n12_ := k.1
        have k := k.2
        refine hq_iald 214 rfl rfl n12_ rfl ?_
        refine sp_istore 216 rfl rfl rfl ?_
        refine sp_aload_n 217 rfl rfl rfl ?_
        refine hq_getR 220 rfl rfl rfl rfl ?_
        refine sp_iload 222 rfl rfl rfl ?_
        refine sp_iconst 223 rfl rfl ?_
        have n13_ := k.1
        have k := k.2
        refine hq_zast 224 rfl rfl n13_ (by decide) rfl ?_
        refine sp_iinc 227 rfl rfl rfl rfl ?_
        refine sp_goto rfl ?_
        refine st_wk (L1 := [some (.ref 65), some (.int v1), some (.int v2), some (.long ((v3 + (((v11).toInt64) * v5)) - (v3 + (((v11).toInt64) * v5)) / ((v5 / x2) * ((v9).toInt64)) * ((v5 / x2) * ((v9).toInt64)))), none, some (.long ((v5 / x2) * ((v9).toInt64))), none, some (.int (I2 97 ((v8).toNatClampNeg))), some (.int (v8 + Int32.ofInt 1)), none, none, none]) ⟨.inr rfl, .inr rfl, .inr rfl, .inr rfl, .inl rfl, .inr rfl, .inl rfl, .inr rfl, .inr rfl, .inl rfl, .inl rfl, .inl rfl, trivial⟩ ?_
        exact k
      · have k := k.1 q
        refine sp_ldc2 175 rfl rfl ?_
        exact st_lret rfl rfl (Nat.le_refl _) (Nat.le_refl _) k
    · have k := k.2 (fun z => q ((lg_cmp_eq _ _).mpr z))
      refine sp_iinc 162 rfl rfl rfl rfl ?_
      refine sp_goto rfl ?_
      exact k
def w_X11_guess_29 (SL : Nat) (xs : Nat → Int32) (d : Nat) (p s q : Nat) (Q : Option Value → mm_H → Prop) (v1 : Int32) (v2 : Int32) (v3 : Int32) (v4 : Int32) (v5 : Int32) (v6 : Int32) (I : Nat → Nat → Int32) (J : Nat → Nat → Int64) : Prop := mm_w SL xs (mm_s SL xs (d + 1)) mm_am kX11_guess 0 0 (some .int) Q 29 [some (.ref 65), some (.int v1), some (.int v2), some (.int v3), some (.int v4), some (.int v5), some (.int v6), none, none] [] (hp p s q I J) 0 0
def w_X11_guess_54 (SL : Nat) (xs : Nat → Int32) (d : Nat) (p s q : Nat) (Q : Option Value → mm_H → Prop) (v1 : Int32) (v2 : Int32) (v3 : Int32) (v4 : Int32) (v5 : Int32) (v6 : Int32) (v7 : Int32) (I : Nat → Nat → Int32) (J : Nat → Nat → Int64) : Prop := mm_w SL xs (mm_s SL xs (d + 1)) mm_am kX11_guess 0 0 (some .int) Q 54 [some (.ref 65), some (.int v1), some (.int v2), some (.int v3), some (.int v4), some (.int v5), some (.int v6), some (.int v7), none] [] (hp p s q I J) 0 0
def w_X11_guess_64 (SL : Nat) (xs : Nat → Int32) (d : Nat) (p s q : Nat) (Q : Option Value → mm_H → Prop) (v1 : Int32) (v2 : Int32) (v3 : Int32) (v4 : Int32) (v5 : Int32) (v6 : Int32) (v7 : Int32) (v8 : Int32) (I : Nat → Nat → Int32) (J : Nat → Nat → Int64) : Prop := mm_w SL xs (mm_s SL xs (d + 1)) mm_am kX11_guess 0 0 (some .int) Q 64 [some (.ref 65), some (.int v1), some (.int v2), some (.int v3), some (.int v4), some (.int v5), some (.int v6), some (.int v7), some (.int v8)] [] (hp p s q I J) 0 0
theorem sg_X11_guess {SL : Nat} {xs : Nat → Int32} {d : Nat} {p s q : Nat} {Q : Option Value → mm_H → Prop} {a0 : Int32} {a1 : Int32} {I : Nat → Nat → Int32} {J : Nat → Nat → Int64}  (k : (((sx_X11_isSmall a0) = Int32.ofInt 0 → Q (some (.int (Int32.ofInt (-1)))) (hp p s q I J)) ∧ (¬ ((sx_X11_isSmall a0) = Int32.ofInt 0) → ((a1 < Int32.ofInt 0 → Q (some (.int (Int32.ofInt (-1)))) (hp p s q I J)) ∧ (¬ (a1 < Int32.ofInt 0) → ((a1 ≤ (Int32.ofInt 1) → w_X11_guess_29 SL xs d p s q Q a0 a1 (Int32.ofInt 0) (Int32.ofInt (-1)) (Int32.ofInt 0) (Int32.ofInt 1) I J) ∧ (¬ (a1 ≤ (Int32.ofInt 1)) → Q (some (.int (Int32.ofInt (-1)))) (hp p s q I J)))))))) : mm_s SL xs (d + 2) 247 [.ref 65, .int a0, .int a1] (hp p s q I J) Q := by
  refine e_X11_guess rfl ?_
  refine sp_iload_n 1 rfl rfl rfl ?_
  refine sc_S 4 rfl rfl rfl rfl (Nat.le_refl _) (Nat.le_refl _) rfl ?_
  refine cx_X11_isSmall ?_
  refine sp_if_eq 7 rfl rfl (fun q => ?_) (fun q => ?_)
  · have k := k.1 q
    refine sp_iconst 17 rfl rfl ?_
    exact st_iret rfl rfl (Nat.le_refl _) (Nat.le_refl _) k
  · have k := k.2 q
    refine sp_iload_n 8 rfl rfl rfl ?_
    refine sp_if_lt 11 rfl rfl (fun q => ?_) (fun q => ?_)
    · have k := k.1 q
      refine sp_iconst 17 rfl rfl ?_
      exact st_iret rfl rfl (Nat.le_refl _) (Nat.le_refl _) k
    · have k := k.2 q
      refine sp_iload_n 12 rfl rfl rfl ?_
      refine sp_iconst 13 rfl rfl ?_
      refine sp_ic_le 16 rfl rfl (fun q => ?_) (fun q => ?_)
      · have k := k.1 q
        refine sp_iconst 19 rfl rfl ?_
        refine sp_istore_n 20 rfl rfl rfl ?_
        refine sp_iconst 21 rfl rfl ?_
        refine sp_istore 23 rfl rfl rfl ?_
        refine sp_iconst 24 rfl rfl ?_
        refine sp_istore 26 rfl rfl rfl ?_
        refine sp_iconst 27 rfl rfl ?_
        refine sp_istore 29 rfl rfl rfl ?_
        exact k
      · have k := k.2 q
        refine sp_iconst 17 rfl rfl ?_
        exact st_iret rfl rfl (Nat.le_refl _) (Nat.le_refl _) k
theorem sg_X11_guess_29 {SL : Nat} {xs : Nat → Int32} {d : Nat} {p s q : Nat} {Q : Option Value → mm_H → Prop} {v1 : Int32} {v2 : Int32} {v3 : Int32} {v4 : Int32} {v5 : Int32} {v6 : Int32} {I : Nat → Nat → Int32} {J : Nat → Nat → Int64}  (k : (((Int32.ofInt 12) < v6 → ((v2 = Int32.ofInt 0 → Q (some (.int v3)) (hp p s q I J)) ∧ (¬ (v2 = Int32.ofInt 0) → Q (some (.int v4)) (hp p s q I J)))) ∧ (¬ ((Int32.ofInt 12) < v6) → (((I 65 80) ≤ Int32.ofInt 0 → ((v2 = Int32.ofInt 0 → Q (some (.int v3)) (hp p s q I J)) ∧ (¬ (v2 = Int32.ofInt 0) → Q (some (.int v4)) (hp p s q I J)))) ∧ (¬ ((I 65 80) ≤ Int32.ofInt 0) → ((v1 < (I 65 80) → ((v2 = Int32.ofInt 0 → Q (some (.int v3)) (hp p s q I J)) ∧ (¬ (v2 = Int32.ofInt 0) → Q (some (.int v4)) (hp p s q I J)))) ∧ (¬ (v1 < (I 65 80)) → w_X11_guess_54 SL xs d p s q Q v1 v2 v3 v4 v5 v6 (Int32.ofInt 1) I J))))))) : w_X11_guess_29 SL xs d p s q Q v1 v2 v3 v4 v5 v6 I J := by
  unfold w_X11_guess_29
  refine sp_iload 31 rfl rfl rfl ?_
  refine sp_bipush 33 rfl rfl ?_
  refine sp_I (y := Int32.ofInt 12) rfl ?_
  refine sp_ic_gt 36 rfl rfl (fun q => ?_) (fun q => ?_)
  · have k := k.1 q
    refine sp_iload_n 158 rfl rfl rfl ?_
    refine sp_if_ne 161 rfl rfl (fun q => ?_) (fun q => ?_)
    · have k := k.2 q
      refine sp_iload 167 rfl rfl rfl ?_
      exact st_iret rfl rfl (Nat.le_refl _) (Nat.le_refl _) k
    · have k := k.1 q
      refine sp_iload_n 162 rfl rfl rfl ?_
      refine sp_goto rfl ?_
      exact st_iret rfl rfl (Nat.le_refl _) (Nat.le_refl _) k
  · have k := k.2 q
    refine sp_aload_n 37 rfl rfl rfl ?_
    refine hq_getI 40 rfl rfl rfl ?_
    refine sp_if_le 43 rfl rfl (fun q => ?_) (fun q => ?_)
    · have k := k.1 q
      refine sp_iload_n 158 rfl rfl rfl ?_
      refine sp_if_ne 161 rfl rfl (fun q => ?_) (fun q => ?_)
      · have k := k.2 q
        refine sp_iload 167 rfl rfl rfl ?_
        exact st_iret rfl rfl (Nat.le_refl _) (Nat.le_refl _) k
      · have k := k.1 q
        refine sp_iload_n 162 rfl rfl rfl ?_
        refine sp_goto rfl ?_
        exact st_iret rfl rfl (Nat.le_refl _) (Nat.le_refl _) k
    · have k := k.2 q
      refine sp_aload_n 44 rfl rfl rfl ?_
      refine hq_getI 47 rfl rfl rfl ?_
      refine sp_iload_n 48 rfl rfl rfl ?_
      refine sp_ic_gt 51 rfl rfl (fun q => ?_) (fun q => ?_)
      · have k := k.1 q
        refine sp_iload_n 158 rfl rfl rfl ?_
        refine sp_if_ne 161 rfl rfl (fun q => ?_) (fun q => ?_)
        · have k := k.2 q
          refine sp_iload 167 rfl rfl rfl ?_
          exact st_iret rfl rfl (Nat.le_refl _) (Nat.le_refl _) k
        · have k := k.1 q
          refine sp_iload_n 162 rfl rfl rfl ?_
          refine sp_goto rfl ?_
          exact st_iret rfl rfl (Nat.le_refl _) (Nat.le_refl _) k
      · have k := k.2 q
        refine sp_iconst 52 rfl rfl ?_
        refine sp_istore 54 rfl rfl rfl ?_
        exact k
theorem sg_X11_guess_54 {SL : Nat} {xs : Nat → Int32} {d : Nat} {p s q : Nat} {Q : Option Value → mm_H → Prop} {v1 : Int32} {v2 : Int32} {v3 : Int32} {v4 : Int32} {v5 : Int32} {v6 : Int32} {v7 : Int32} {I : Nat → Nat → Int32} {J : Nat → Nat → Int64}  (k : (((Int32.ofInt 12) < v7 → w_X11_guess_29 SL xs d p s q Q v1 v2 v3 v4 v5 (v6 + Int32.ofInt 1) I J) ∧ (¬ ((Int32.ofInt 12) < v7) → w_X11_guess_64 SL xs d p s q Q v1 v2 v3 v4 v5 v6 v7 (Int32.ofInt 0) I J))) : w_X11_guess_54 SL xs d p s q Q v1 v2 v3 v4 v5 v6 v7 I J := by
  unfold w_X11_guess_54
  refine sp_iload 56 rfl rfl rfl ?_
  refine sp_bipush 58 rfl rfl ?_
  refine sp_I (y := Int32.ofInt 12) rfl ?_
  refine sp_ic_gt 61 rfl rfl (fun q => ?_) (fun q => ?_)
  · have k := k.1 q
    refine sp_iinc 154 rfl rfl rfl rfl ?_
    refine sp_goto rfl ?_
    refine st_wk (L1 := [some (.ref 65), some (.int v1), some (.int v2), some (.int v3), some (.int v4), some (.int v5), some (.int (v6 + Int32.ofInt 1)), none, none]) ⟨.inr rfl, .inr rfl, .inr rfl, .inr rfl, .inr rfl, .inr rfl, .inr rfl, .inl rfl, .inl rfl, trivial⟩ ?_
    exact k
  · have k := k.2 q
    refine sp_iconst 62 rfl rfl ?_
    refine sp_istore 64 rfl rfl rfl ?_
    exact k
theorem sg_X11_guess_64 {SL : Nat} {xs : Nat → Int32} {d : Nat} {p s q : Nat} {Q : Option Value → mm_H → Prop} {v1 : Int32} {v2 : Int32} {v3 : Int32} {v4 : Int32} {v5 : Int32} {v6 : Int32} {v7 : Int32} {v8 : Int32} {I : Nat → Nat → Int32} {J : Nat → Nat → Int64}  (k : (((Int32.ofInt 6) < v8 → w_X11_guess_54 SL xs d p s q Q v1 v2 v3 v4 v5 v6 (v7 + Int32.ofInt 1) I J) ∧ (¬ ((Int32.ofInt 6) < v8) → (mm_s SL xs (d + 1) 246 [.ref 65, .int v1, .int v6, .int v7, .int v8] (hp p s q I J) (fun r_ h_ => ∃ x1 I1 J1, r_ = some (.int x1) ∧ h_ = hp p s q I1 J1 ∧ ((x1 = Int32.ofInt 0 → w_X11_guess_64 SL xs d p s q Q v1 v2 v3 v4 v5 v6 v7 (v8 + Int32.ofInt 1) I1 J1) ∧ (¬ (x1 = Int32.ofInt 0) → ((v4 < Int32.ofInt 0 → w_X11_guess_64 SL xs d p s q Q v1 v2 (v3 + Int32.ofInt 1) ((((Int32.ofInt 10000) * v6) + ((Int32.ofInt 100) * v7)) + v8) ((v6 + v7) + v8) v6 v7 (v8 + Int32.ofInt 1) I1 J1) ∧ (¬ (v4 < Int32.ofInt 0) → ((((v6 + v7) + v8) < v5 → w_X11_guess_64 SL xs d p s q Q v1 v2 (v3 + Int32.ofInt 1) ((((Int32.ofInt 10000) * v6) + ((Int32.ofInt 100) * v7)) + v8) ((v6 + v7) + v8) v6 v7 (v8 + Int32.ofInt 1) I1 J1) ∧ (¬ (((v6 + v7) + v8) < v5) → w_X11_guess_64 SL xs d p s q Q v1 v2 (v3 + Int32.ofInt 1) v4 v5 v6 v7 (v8 + Int32.ofInt 1) I1 J1))))))))))) : w_X11_guess_64 SL xs d p s q Q v1 v2 v3 v4 v5 v6 v7 v8 I J := by
  unfold w_X11_guess_64
  refine sp_iload 66 rfl rfl rfl ?_
  refine sp_bipush 68 rfl rfl ?_
  refine sp_I (y := Int32.ofInt 6) rfl ?_
  refine sp_ic_gt 71 rfl rfl (fun q => ?_) (fun q => ?_)
  · have k := k.1 q
    refine sp_iinc 148 rfl rfl rfl rfl ?_
    refine sp_goto rfl ?_
    refine st_wk (L1 := [some (.ref 65), some (.int v1), some (.int v2), some (.int v3), some (.int v4), some (.int v5), some (.int v6), some (.int (v7 + Int32.ofInt 1)), none]) ⟨.inr rfl, .inr rfl, .inr rfl, .inr rfl, .inr rfl, .inr rfl, .inr rfl, .inr rfl, .inl rfl, trivial⟩ ?_
    exact k
  · have k := k.2 q
    refine sp_aload_n 72 rfl rfl rfl ?_
    refine sp_iload_n 73 rfl rfl rfl ?_
    refine sp_iload 75 rfl rfl rfl ?_
    refine sp_iload 77 rfl rfl rfl ?_
    refine sp_iload 79 rfl rfl rfl ?_
    refine sc_V 82 rfl rfl rfl rfl rfl (Nat.le_refl _) (Nat.le_refl _) rfl ?_
    refine mm_s_mono _ _ _ _ _ _ ?_ k
    rintro r_ h_ ⟨x1, I1, J1, rfl, rfl, k⟩
    refine sp_if_ne 85 rfl rfl (fun q => ?_) (fun q => ?_)
    · have k := k.2 q
      refine sp_iinc 91 rfl rfl rfl rfl ?_
      refine sp_iload 93 rfl rfl rfl ?_
      refine sp_if_lt 96 rfl rfl (fun q => ?_) (fun q => ?_)
      · have k := k.1 q
        refine sp_sipush 115 rfl rfl ?_
        refine sp_I (y := Int32.ofInt 10000) rfl ?_
        refine sp_iload 117 rfl rfl rfl ?_
        refine sp_imul 118 rfl rfl ?_
        refine sp_bipush 120 rfl rfl ?_
        refine sp_I (y := Int32.ofInt 100) rfl ?_
        refine sp_iload 122 rfl rfl rfl ?_
        refine sp_imul 123 rfl rfl ?_
        refine sp_iadd 124 rfl rfl ?_
        refine sp_iload 126 rfl rfl rfl ?_
        refine sp_iadd 127 rfl rfl ?_
        refine sp_istore 129 rfl rfl rfl ?_
        refine sp_iload 131 rfl rfl rfl ?_
        refine sp_iload 133 rfl rfl rfl ?_
        refine sp_iadd 134 rfl rfl ?_
        refine sp_iload 136 rfl rfl rfl ?_
        refine sp_iadd 137 rfl rfl ?_
        refine sp_istore 139 rfl rfl rfl ?_
        refine sp_iinc 142 rfl rfl rfl rfl ?_
        refine sp_goto rfl ?_
        exact k
      · have k := k.2 q
        refine sp_iload 98 rfl rfl rfl ?_
        refine sp_iload 100 rfl rfl rfl ?_
        refine sp_iadd 101 rfl rfl ?_
        refine sp_iload 103 rfl rfl rfl ?_
        refine sp_iadd 104 rfl rfl ?_
        refine sp_iload 106 rfl rfl rfl ?_
        refine sp_ic_lt 109 rfl rfl (fun q => ?_) (fun q => ?_)
        · have k := k.1 q
          refine sp_sipush 115 rfl rfl ?_
          refine sp_I (y := Int32.ofInt 10000) rfl ?_
          refine sp_iload 117 rfl rfl rfl ?_
          refine sp_imul 118 rfl rfl ?_
          refine sp_bipush 120 rfl rfl ?_
          refine sp_I (y := Int32.ofInt 100) rfl ?_
          refine sp_iload 122 rfl rfl rfl ?_
          refine sp_imul 123 rfl rfl ?_
          refine sp_iadd 124 rfl rfl ?_
          refine sp_iload 126 rfl rfl rfl ?_
          refine sp_iadd 127 rfl rfl ?_
          refine sp_istore 129 rfl rfl rfl ?_
          refine sp_iload 131 rfl rfl rfl ?_
          refine sp_iload 133 rfl rfl rfl ?_
          refine sp_iadd 134 rfl rfl ?_
          refine sp_iload 136 rfl rfl rfl ?_
          refine sp_iadd 137 rfl rfl ?_
          refine sp_istore 139 rfl rfl rfl ?_
          refine sp_iinc 142 rfl rfl rfl rfl ?_
          refine sp_goto rfl ?_
          exact k
        · have k := k.2 q
          refine sp_goto rfl ?_
          refine sp_iinc 142 rfl rfl rfl rfl ?_
          refine sp_goto rfl ?_
          exact k
    · have k := k.1 q
      refine sp_goto rfl ?_
      refine sp_iinc 142 rfl rfl rfl rfl ?_
      refine sp_goto rfl ?_
      exact k
def w_X11_layLasts_2 (SL : Nat) (xs : Nat → Int32) (d : Nat) (p s q : Nat) (Q : Option Value → mm_H → Prop) (v1 : Int32) (v2 : Int32) (v3 : Int32) (I : Nat → Nat → Int32) (J : Nat → Nat → Int64) : Prop := mm_w SL xs (mm_s SL xs (d + 1)) mm_am kX11_layLasts 0 0 none Q 2 [some (.ref 65), some (.int v1), some (.int v2), some (.int v3)] [] (hp p s q I J) 0 0
def w_X11_layLasts_23 (SL : Nat) (xs : Nat → Int32) (d : Nat) (p s q : Nat) (Q : Option Value → mm_H → Prop) (v1 : Int32) (v2 : Int32) (v3 : Int32) (I : Nat → Nat → Int32) (J : Nat → Nat → Int64) : Prop := mm_w SL xs (mm_s SL xs (d + 1)) mm_am kX11_layLasts 0 0 none Q 23 [some (.ref 65), some (.int v1), some (.int v2), some (.int v3)] [] (hp p s q I J) 0 0
theorem sg_X11_layLasts {SL : Nat} {xs : Nat → Int32} {d : Nat} {p s q : Nat} {Q : Option Value → mm_H → Prop} {a0 : Int32} {a1 : Int32} {I : Nat → Nat → Int32} {J : Nat → Nat → Int64}  (k : w_X11_layLasts_2 SL xs d p s q Q a0 a1 (Int32.ofInt 0) I J) : mm_s SL xs (d + 2) 250 [.ref 65, .int a0, .int a1] (hp p s q I J) Q := by
  refine e_X11_layLasts rfl ?_
  refine sp_iconst 1 rfl rfl ?_
  refine sp_istore_n 2 rfl rfl rfl ?_
  exact k
theorem sg_X11_layLasts_2 {SL : Nat} {xs : Nat → Int32} {d : Nat} {p s q : Nat} {Q : Option Value → mm_H → Prop} {v1 : Int32} {v2 : Int32} {v3 : Int32} {I : Nat → Nat → Int32} {J : Nat → Nat → Int64}  (k : (((Int32.ofInt 60) ≤ v3 → w_X11_layLasts_23 SL xs d p s q Q v1 v2 (Int32.ofInt 1) I J) ∧ (¬ ((Int32.ofInt 60) ≤ v3) → (vp_in v3 60 ∧ w_X11_layLasts_2 SL xs d p s q Q v1 v2 (v3 + Int32.ofInt 1) (mm_u I 99 ((v3).toNatClampNeg) (Int32.ofInt 0)) J)))) : w_X11_layLasts_2 SL xs d p s q Q v1 v2 v3 I J := by
  unfold w_X11_layLasts_2
  refine sp_iload_n 3 rfl rfl rfl ?_
  refine sp_bipush 5 rfl rfl ?_
  refine sp_I (y := Int32.ofInt 60) rfl ?_
  refine sp_ic_ge 8 rfl rfl (fun q => ?_) (fun q => ?_)
  · have k := k.1 q
    refine sp_iconst 22 rfl rfl ?_
    refine sp_istore_n 23 rfl rfl rfl ?_
    exact k
  · have k := k.2 q
    refine sp_aload_n 9 rfl rfl rfl ?_
    refine hq_getR 12 rfl rfl rfl rfl ?_
    refine sp_iload_n 13 rfl rfl rfl ?_
    refine sp_iconst 14 rfl rfl ?_
    have n1_ := k.1
    have k := k.2
    refine hq_iast 15 rfl rfl n1_ rfl ?_
    refine sp_iinc 18 rfl rfl rfl rfl ?_
    refine sp_goto rfl ?_
    exact k
theorem sg_X11_layLasts_23 {SL : Nat} {xs : Nat → Int32} {d : Nat} {p s q : Nat} {Q : Option Value → mm_H → Prop} {v1 : Int32} {v2 : Int32} {v3 : Int32} {I : Nat → Nat → Int32} {J : Nat → Nat → Int64}  (k : ((v2 < v3 → Q none (hp p s q I J)) ∧ (¬ (v2 < v3) → (mm_s SL xs (d + 1) 248 [.int v1, .int v3] (hp p s q I J) (fun r_ h_ => ∃ x1 I1 J1, r_ = some (.int x1) ∧ h_ = hp p s q I1 J1 ∧ (vp_in x1 60 ∧ w_X11_layLasts_23 SL xs d p s q Q v1 v2 (v3 + Int32.ofInt 1) (mm_u I1 99 ((x1).toNatClampNeg) ((I1 99 ((x1).toNatClampNeg)) + (Int32.ofInt 1))) J1)))))) : w_X11_layLasts_23 SL xs d p s q Q v1 v2 v3 I J := by
  unfold w_X11_layLasts_23
  refine sp_iload_n 24 rfl rfl rfl ?_
  refine sp_iload_n 25 rfl rfl rfl ?_
  refine sp_ic_gt 28 rfl rfl (fun q => ?_) (fun q => ?_)
  · have k := k.1 q
    exact st_vret rfl rfl (Nat.le_refl _) (Nat.le_refl _) k
  · have k := k.2 q
    refine sp_aload_n 29 rfl rfl rfl ?_
    refine hq_getR 32 rfl rfl rfl rfl ?_
    refine sp_iload_n 33 rfl rfl rfl ?_
    refine sp_iload_n 34 rfl rfl rfl ?_
    refine sc_S 37 rfl rfl rfl rfl (Nat.le_refl _) (Nat.le_refl _) rfl ?_
    refine mm_s_mono _ _ _ _ _ _ ?_ k
    rintro r_ h_ ⟨x1, I1, J1, rfl, rfl, k⟩
    refine sp_dup2 38 rfl rfl rfl rfl ?_
    have n2_ := k.1
    have k := k.2
    refine hq_iald 39 rfl rfl n2_ rfl ?_
    refine sp_iconst 40 rfl rfl ?_
    refine sp_iadd 41 rfl rfl ?_
    refine hq_iast 42 rfl rfl n2_ rfl ?_
    refine sp_iinc 45 rfl rfl rfl rfl ?_
    refine sp_goto rfl ?_
    exact k
def w_X11_ever_14 (SL : Nat) (xs : Nat → Int32) (d : Nat) (p s q : Nat) (Q : Option Value → mm_H → Prop) (v1 : Int32) (v2 : Int64) (v4 : Int32) (I : Nat → Nat → Int32) (J : Nat → Nat → Int64) : Prop := mm_w SL xs (mm_s SL xs (d + 1)) mm_am kX11_ever 0 0 (some .int) Q 14 [some (.ref 65), some (.int v1), some (.long v2), none, some (.int v4)] [] (hp p s q I J) 0 0
theorem sg_X11_ever {SL : Nat} {xs : Nat → Int32} {d : Nat} {p s q : Nat} {Q : Option Value → mm_H → Prop} {a0 : Int32} {I : Nat → Nat → Int32} {J : Nat → Nat → Int64}  (k : (((sx_X11_isSmall a0) = Int32.ofInt 0 → Q (some (.int (Int32.ofInt (-1)))) (hp p s q I J)) ∧ (¬ ((sx_X11_isSmall a0) = Int32.ofInt 0) → w_X11_ever_14 SL xs d p s q Q a0 (Int64.ofInt 0) (Int32.ofInt 1) I J))) : mm_s SL xs (d + 2) 253 [.ref 65, .int a0] (hp p s q I J) Q := by
  refine e_X11_ever rfl ?_
  refine sp_iload_n 1 rfl rfl rfl ?_
  refine sc_S 4 rfl rfl rfl rfl (Nat.le_refl _) (Nat.le_refl _) rfl ?_
  refine cx_X11_isSmall ?_
  refine sp_if_ne 7 rfl rfl (fun q => ?_) (fun q => ?_)
  · have k := k.2 q
    refine sp_lconst 10 rfl rfl ?_
    refine sp_J (y := Int64.ofInt 0) rfl ?_
    refine sp_lstore_n 11 rfl rfl rfl ?_
    refine sp_iconst 12 rfl rfl ?_
    refine sp_istore 14 rfl rfl rfl ?_
    exact k
  · have k := k.1 q
    refine sp_iconst 8 rfl rfl ?_
    exact st_iret rfl rfl (Nat.le_refl _) (Nat.le_refl _) k
theorem sg_X11_ever_14 {SL : Nat} {xs : Nat → Int32} {d : Nat} {p s q : Nat} {Q : Option Value → mm_H → Prop} {v1 : Int32} {v2 : Int64} {v4 : Int32} {I : Nat → Nat → Int32} {J : Nat → Nat → Int64}  (k : (((Int32.ofInt 3000) < v4 → Q (some (.int (Int32.ofInt (-1)))) (hp p s q I J)) ∧ (¬ ((Int32.ofInt 3000) < v4) → (mm_s SL xs (d + 1) 248 [.int v1, .int v4] (hp p s q I J) (fun r_ h_ => ∃ x1 I1 J1, r_ = some (.int x1) ∧ h_ = hp p s q I1 J1 ∧ (mm_s SL xs (d + 1) 239 [.long (v2 ||| ((Int64.ofInt 1) <<< ((x1).toInt64 &&& 63)))] (hp p s q I1 J1) (fun r_ h_ => ∃ x2 I2 J2, r_ = some (.int x2) ∧ h_ = hp p s q I2 J2 ∧ ((x2 = v1 → Q (some (.int v4)) (hp p s q I2 J2)) ∧ (¬ (x2 = v1) → w_X11_ever_14 SL xs d p s q Q v1 (v2 ||| ((Int64.ofInt 1) <<< ((x1).toInt64 &&& 63))) (v4 + Int32.ofInt 1) I2 J2))))))))) : w_X11_ever_14 SL xs d p s q Q v1 v2 v4 I J := by
  unfold w_X11_ever_14
  refine sp_iload 16 rfl rfl rfl ?_
  refine sp_sipush 19 rfl rfl ?_
  refine sp_I (y := Int32.ofInt 3000) rfl ?_
  refine sp_ic_gt 22 rfl rfl (fun q => ?_) (fun q => ?_)
  · have k := k.1 q
    refine sp_iconst 51 rfl rfl ?_
    exact st_iret rfl rfl (Nat.le_refl _) (Nat.le_refl _) k
  · have k := k.2 q
    refine sp_lload_n 23 rfl rfl rfl ?_
    refine sp_lconst 24 rfl rfl ?_
    refine sp_J (y := Int64.ofInt 1) rfl ?_
    refine sp_iload_n 25 rfl rfl rfl ?_
    refine sp_iload 27 rfl rfl rfl ?_
    refine sc_S 30 rfl rfl rfl rfl (Nat.le_refl _) (Nat.le_refl _) rfl ?_
    refine mm_s_mono _ _ _ _ _ _ ?_ k
    rintro r_ h_ ⟨x1, I1, J1, rfl, rfl, k⟩
    refine sp_lshl 31 rfl rfl ?_
    refine sp_lor 32 rfl rfl ?_
    refine sp_lstore_n 33 rfl rfl rfl ?_
    refine sp_lload_n 34 rfl rfl rfl ?_
    refine sc_S 37 rfl rfl rfl rfl (Nat.le_refl _) (Nat.le_refl _) rfl ?_
    refine mm_s_mono _ _ _ _ _ _ ?_ k
    rintro r_ h_ ⟨x2, I2, J2, rfl, rfl, k⟩
    refine sp_iload_n 38 rfl rfl rfl ?_
    refine sp_ic_ne 41 rfl rfl (fun q => ?_) (fun q => ?_)
    · have k := k.2 q
      refine sp_iinc 47 rfl rfl rfl rfl ?_
      refine sp_goto rfl ?_
      exact k
    · have k := k.1 q
      refine sp_iload 43 rfl rfl rfl ?_
      exact st_iret rfl rfl (Nat.le_refl _) (Nat.le_refl _) k
def w_X11_weightOf_5 (SL : Nat) (xs : Nat → Int32) (d : Nat) (p s q : Nat) (Q : Option Value → mm_H → Prop) (v1 : Int32) (v2 : Int32) (v3 : Int32) (v4 : Int32) (I : Nat → Nat → Int32) (J : Nat → Nat → Int64) : Prop := mm_w SL xs (mm_s SL xs (d + 1)) mm_am kX11_weightOf 0 0 (some .int) Q 5 [some (.ref 65), some (.int v1), some (.int v2), some (.int v3), some (.int v4)] [] (hp p s q I J) 0 0
theorem sg_X11_weightOf {SL : Nat} {xs : Nat → Int32} {d : Nat} {p s q : Nat} {Q : Option Value → mm_H → Prop} {a0 : Int32} {a1 : Int32} {I : Nat → Nat → Int32} {J : Nat → Nat → Int64}  (k : w_X11_weightOf_5 SL xs d p s q Q a0 a1 (Int32.ofInt 0) (Int32.ofInt 0) I J) : mm_s SL xs (d + 2) 255 [.ref 65, .int a0, .int a1] (hp p s q I J) Q := by
  refine e_X11_weightOf rfl ?_
  refine sp_iconst 1 rfl rfl ?_
  refine sp_istore_n 2 rfl rfl rfl ?_
  refine sp_iconst 3 rfl rfl ?_
  refine sp_istore 5 rfl rfl rfl ?_
  exact k
theorem sg_X11_weightOf_5 {SL : Nat} {xs : Nat → Int32} {d : Nat} {p s q : Nat} {Q : Option Value → mm_H → Prop} {v1 : Int32} {v2 : Int32} {v3 : Int32} {v4 : Int32} {I : Nat → Nat → Int32} {J : Nat → Nat → Int64}  (k : (((I 65 44) ≤ v4 → Q (some (.int v3)) (hp p s q I J)) ∧ (¬ ((I 65 44) ≤ v4) → (vp_in v4 12 ∧ (mm_s SL xs (d + 1) 248 [.int v1, .int (I 83 ((v4).toNatClampNeg))] (hp p s q I J) (fun r_ h_ => ∃ x1 I1 J1, r_ = some (.int x1) ∧ h_ = hp p s q I1 J1 ∧ ((x1 = v2 → w_X11_weightOf_5 SL xs d p s q Q v1 v2 (v3 + (I1 84 ((v4).toNatClampNeg))) (v4 + Int32.ofInt 1) I1 J1) ∧ (¬ (x1 = v2) → w_X11_weightOf_5 SL xs d p s q Q v1 v2 (v3 + (Int32.ofInt 0)) (v4 + Int32.ofInt 1) I1 J1)))))))) : w_X11_weightOf_5 SL xs d p s q Q v1 v2 v3 v4 I J := by
  unfold w_X11_weightOf_5
  refine sp_iload 7 rfl rfl rfl ?_
  refine sp_aload_n 8 rfl rfl rfl ?_
  refine hq_getI 11 rfl rfl rfl ?_
  refine sp_ic_ge 14 rfl rfl (fun q => ?_) (fun q => ?_)
  · have k := k.1 q
    refine sp_iload_n 50 rfl rfl rfl ?_
    exact st_iret rfl rfl (Nat.le_refl _) (Nat.le_refl _) k
  · have k := k.2 q
    refine sp_iload_n 15 rfl rfl rfl ?_
    refine sp_iload_n 16 rfl rfl rfl ?_
    refine sp_aload_n 17 rfl rfl rfl ?_
    refine hq_getR 20 rfl rfl rfl rfl ?_
    refine sp_iload 22 rfl rfl rfl ?_
    have n1_ := k.1
    have k := k.2
    refine hq_iald 23 rfl rfl n1_ rfl ?_
    refine sc_S 26 rfl rfl rfl rfl (Nat.le_refl _) (Nat.le_refl _) rfl ?_
    refine mm_s_mono _ _ _ _ _ _ ?_ k
    rintro r_ h_ ⟨x1, I1, J1, rfl, rfl, k⟩
    refine sp_iload_n 27 rfl rfl rfl ?_
    refine sp_ic_ne 30 rfl rfl (fun q => ?_) (fun q => ?_)
    · have k := k.2 q
      refine sp_iconst 41 rfl rfl ?_
      refine sp_iadd 42 rfl rfl ?_
      refine sp_istore_n 43 rfl rfl rfl ?_
      refine sp_iinc 46 rfl rfl rfl rfl ?_
      refine sp_goto rfl ?_
      exact k
    · have k := k.1 q
      refine sp_aload_n 31 rfl rfl rfl ?_
      refine hq_getR 34 rfl rfl rfl rfl ?_
      refine sp_iload 36 rfl rfl rfl ?_
      refine hq_iald 37 rfl rfl n1_ rfl ?_
      refine sp_goto rfl ?_
      refine sp_iadd 42 rfl rfl ?_
      refine sp_istore_n 43 rfl rfl rfl ?_
      refine sp_iinc 46 rfl rfl rfl rfl ?_
      refine sp_goto rfl ?_
      exact k
theorem sg_X11_partOf {SL : Nat} {xs : Nat → Int32} {d : Nat} {p s q : Nat} {Q : Option Value → mm_H → Prop} {a0 : Int32} {a1 : Int32} {a2 : Int32} {I : Nat → Nat → Int32} {J : Nat → Nat → Int64}  (k : (mm_s SL xs (d + 1) 243 [.long ((a1).toInt64), .long ((a0).toInt64)] (hp p s q I J) (fun r_ h_ => ∃ x1 I1 J1, r_ = some (.long x1) ∧ h_ = hp p s q I1 J1 ∧ ((a2 = Int32.ofInt 0 → (¬ ((x1).toInt32) = 0 ∧ Q (some (.int (a0 / ((x1).toInt32)))) (hp p s q I1 J1))) ∧ (¬ (a2 = Int32.ofInt 0) → (¬ ((x1).toInt32) = 0 ∧ Q (some (.int (a1 / ((x1).toInt32)))) (hp p s q I1 J1))))))) : mm_s SL xs (d + 2) 256 [.int a0, .int a1, .int a2] (hp p s q I J) Q := by
  refine e_X11_partOf rfl ?_
  refine sp_iload_n 1 rfl rfl rfl ?_
  refine sp_i2l 2 rfl rfl ?_
  refine sp_iload_n 3 rfl rfl rfl ?_
  refine sp_i2l 4 rfl rfl ?_
  refine sc_S 7 rfl rfl rfl rfl (Nat.le_refl _) (Nat.le_refl _) rfl ?_
  refine mm_s_mono _ _ _ _ _ _ ?_ k
  rintro r_ h_ ⟨x1, I1, J1, rfl, rfl, k⟩
  refine sp_l2i 8 rfl rfl ?_
  refine sp_istore_n 9 rfl rfl rfl ?_
  refine sp_iload_n 10 rfl rfl rfl ?_
  refine sp_if_ne 13 rfl rfl (fun q => ?_) (fun q => ?_)
  · have k := k.2 q
    refine sp_iload_n 20 rfl rfl rfl ?_
    refine sp_iload_n 21 rfl rfl rfl ?_
    have n1_ := k.1
    have k := k.2
    refine sp_idiv 22 rfl n1_ rfl ?_
    exact st_iret rfl rfl (Nat.le_refl _) (Nat.le_refl _) k
  · have k := k.1 q
    refine sp_iload_n 14 rfl rfl rfl ?_
    refine sp_iload_n 15 rfl rfl rfl ?_
    have n2_ := k.1
    have k := k.2
    refine sp_idiv 16 rfl n2_ rfl ?_
    refine sp_goto rfl ?_
    exact st_iret rfl rfl (Nat.le_refl _) (Nat.le_refl _) k
theorem sg_X11_sight {SL : Nat} {xs : Nat → Int32} {d : Nat} {p s q : Nat} {Q : Option Value → mm_H → Prop} {a0 : Int32} {a1 : Int32} {a2 : Int32} {I : Nat → Nat → Int32} {J : Nat → Nat → Int64}  (k : (((sx_X11_isSmall a0) = Int32.ofInt 0 → Q (some (.int (Int32.ofInt (-1)))) (hp p s q I J)) ∧ (¬ ((sx_X11_isSmall a0) = Int32.ofInt 0) → ((a1 < (Int32.ofInt 1) → Q (some (.int (Int32.ofInt (-1)))) (hp p s q I J)) ∧ (¬ (a1 < (Int32.ofInt 1)) → ((a0 < a1 → Q (some (.int (Int32.ofInt (-1)))) (hp p s q I J)) ∧ (¬ (a0 < a1) → ((a2 < Int32.ofInt 0 → Q (some (.int (Int32.ofInt (-1)))) (hp p s q I J)) ∧ (¬ (a2 < Int32.ofInt 0) → ((a0 ≤ a2 → Q (some (.int (Int32.ofInt (-1)))) (hp p s q I J)) ∧ (¬ (a0 ≤ a2) → (((I 65 88) = (Int32.ofInt 40) → Q (some (.int (Int32.ofInt (-1)))) (hp p s q I J)) ∧ (¬ ((I 65 88) = (Int32.ofInt 40)) → (vp_in (I 65 88) 40 ∧ Q (some (.int (((I 65 88) + (Int32.ofInt 1)) - (Int32.ofInt 1)))) (hp p s q (mm_u (mm_u (mm_u (mm_u (mm_u (mm_u I 100 (((I 65 88)).toNatClampNeg) a0) 101 (((I 65 88)).toNatClampNeg) a1) 102 (((I 65 88)).toNatClampNeg) a2) 103 (((I 65 88)).toNatClampNeg) (I 65 89)) 104 (((I 65 88)).toNatClampNeg) (Int32.ofInt (-1))) 65 88 ((I 65 88) + (Int32.ofInt 1))) J))))))))))))))) : mm_s SL xs (d + 2) 262 [.ref 65, .int a0, .int a1, .int a2] (hp p s q I J) Q := by
  refine e_X11_sight rfl ?_
  refine sp_iload_n 1 rfl rfl rfl ?_
  refine sc_S 4 rfl rfl rfl rfl (Nat.le_refl _) (Nat.le_refl _) rfl ?_
  refine cx_X11_isSmall ?_
  refine sp_if_eq 7 rfl rfl (fun q => ?_) (fun q => ?_)
  · have k := k.1 q
    refine sp_iconst 36 rfl rfl ?_
    exact st_iret rfl rfl (Nat.le_refl _) (Nat.le_refl _) k
  · have k := k.2 q
    refine sp_iload_n 8 rfl rfl rfl ?_
    refine sp_iconst 9 rfl rfl ?_
    refine sp_ic_lt 12 rfl rfl (fun q => ?_) (fun q => ?_)
    · have k := k.1 q
      refine sp_iconst 36 rfl rfl ?_
      exact st_iret rfl rfl (Nat.le_refl _) (Nat.le_refl _) k
    · have k := k.2 q
      refine sp_iload_n 13 rfl rfl rfl ?_
      refine sp_iload_n 14 rfl rfl rfl ?_
      refine sp_ic_gt 17 rfl rfl (fun q => ?_) (fun q => ?_)
      · have k := k.1 q
        refine sp_iconst 36 rfl rfl ?_
        exact st_iret rfl rfl (Nat.le_refl _) (Nat.le_refl _) k
      · have k := k.2 q
        refine sp_iload_n 18 rfl rfl rfl ?_
        refine sp_if_lt 21 rfl rfl (fun q => ?_) (fun q => ?_)
        · have k := k.1 q
          refine sp_iconst 36 rfl rfl ?_
          exact st_iret rfl rfl (Nat.le_refl _) (Nat.le_refl _) k
        · have k := k.2 q
          refine sp_iload_n 22 rfl rfl rfl ?_
          refine sp_iload_n 23 rfl rfl rfl ?_
          refine sp_ic_ge 26 rfl rfl (fun q => ?_) (fun q => ?_)
          · have k := k.1 q
            refine sp_iconst 36 rfl rfl ?_
            exact st_iret rfl rfl (Nat.le_refl _) (Nat.le_refl _) k
          · have k := k.2 q
            refine sp_aload_n 27 rfl rfl rfl ?_
            refine hq_getI 30 rfl rfl rfl ?_
            refine sp_bipush 32 rfl rfl ?_
            refine sp_I (y := Int32.ofInt 40) rfl ?_
            refine sp_ic_ne 35 rfl rfl (fun q => ?_) (fun q => ?_)
            · have k := k.2 q
              refine sp_aload_n 38 rfl rfl rfl ?_
              refine hq_getR 41 rfl rfl rfl rfl ?_
              refine sp_aload_n 42 rfl rfl rfl ?_
              refine hq_getI 45 rfl rfl rfl ?_
              refine sp_iload_n 46 rfl rfl rfl ?_
              have n1_ := k.1
              have k := k.2
              refine hq_iast 47 rfl rfl n1_ rfl ?_
              refine sp_aload_n 48 rfl rfl rfl ?_
              refine hq_getR 51 rfl rfl rfl rfl ?_
              refine sp_aload_n 52 rfl rfl rfl ?_
              refine hq_getI 55 rfl rfl rfl ?_
              refine sp_I (y := (I 65 88)) (by simp [mm_u]) ?_
              refine sp_iload_n 56 rfl rfl rfl ?_
              refine hq_iast 57 rfl rfl n1_ rfl ?_
              refine sp_aload_n 58 rfl rfl rfl ?_
              refine hq_getR 61 rfl rfl rfl rfl ?_
              refine sp_aload_n 62 rfl rfl rfl ?_
              refine hq_getI 65 rfl rfl rfl ?_
              refine sp_I (y := (I 65 88)) (by simp [mm_u]) ?_
              refine sp_iload_n 66 rfl rfl rfl ?_
              refine hq_iast 67 rfl rfl n1_ rfl ?_
              refine sp_aload_n 68 rfl rfl rfl ?_
              refine hq_getR 71 rfl rfl rfl rfl ?_
              refine sp_aload_n 72 rfl rfl rfl ?_
              refine hq_getI 75 rfl rfl rfl ?_
              refine sp_I (y := (I 65 88)) (by simp [mm_u]) ?_
              refine sp_aload_n 76 rfl rfl rfl ?_
              refine hq_getI 79 rfl rfl rfl ?_
              refine sp_I (y := (I 65 89)) (by simp [mm_u]) ?_
              refine hq_iast 80 rfl rfl n1_ rfl ?_
              refine sp_aload_n 81 rfl rfl rfl ?_
              refine hq_getR 84 rfl rfl rfl rfl ?_
              refine sp_aload_n 85 rfl rfl rfl ?_
              refine hq_getI 88 rfl rfl rfl ?_
              refine sp_I (y := (I 65 88)) (by simp [mm_u]) ?_
              refine sp_iconst 89 rfl rfl ?_
              refine hq_iast 90 rfl rfl n1_ rfl ?_
              refine sp_aload_n 91 rfl rfl rfl ?_
              refine sp_dup 92 rfl rfl rfl ?_
              refine hq_getI 95 rfl rfl rfl ?_
              refine sp_I (y := (I 65 88)) (by simp [mm_u]) ?_
              refine sp_iconst 96 rfl rfl ?_
              refine sp_iadd 97 rfl rfl ?_
              refine hq_putI 100 rfl rfl rfl ?_
              refine sp_aload_n 101 rfl rfl rfl ?_
              refine hq_getI 104 rfl rfl rfl ?_
              refine sp_I (y := ((I 65 88) + (Int32.ofInt 1))) (by simp [mm_u]) ?_
              refine sp_iconst 105 rfl rfl ?_
              refine sp_isub 106 rfl rfl ?_
              exact st_iret rfl rfl (Nat.le_refl _) (Nat.le_refl _) k
            · have k := k.1 q
              refine sp_iconst 36 rfl rfl ?_
              exact st_iret rfl rfl (Nat.le_refl _) (Nat.le_refl _) k
def w_X11_doesFit_5 (SL : Nat) (xs : Nat → Int32) (d : Nat) (p s q : Nat) (Q : Option Value → mm_H → Prop) (v1 : Int32) (v2 : Int32) (v3 : Int32) (v4 : Int32) (I : Nat → Nat → Int32) (J : Nat → Nat → Int64) : Prop := mm_w SL xs (mm_s SL xs (d + 1)) mm_am kX11_doesFit 0 0 (some .boolean) Q 5 [some (.ref 65), some (.int v1), some (.int v2), some (.int v3), some (.int v4)] [] (hp p s q I J) 0 0
theorem sg_X11_doesFit {SL : Nat} {xs : Nat → Int32} {d : Nat} {p s q : Nat} {Q : Option Value → mm_H → Prop} {a0 : Int32} {a1 : Int32} {I : Nat → Nat → Int32} {J : Nat → Nat → Int64}  (k : w_X11_doesFit_5 SL xs d p s q Q a0 a1 (Int32.ofInt 1) (Int32.ofInt 0) I J) : mm_s SL xs (d + 2) 266 [.ref 65, .int a0, .int a1] (hp p s q I J) Q := by
  refine e_X11_doesFit rfl ?_
  refine sp_iconst 1 rfl rfl ?_
  refine sp_istore_n 2 rfl rfl rfl ?_
  refine sp_iconst 3 rfl rfl ?_
  refine sp_istore 5 rfl rfl rfl ?_
  exact k
theorem sg_X11_doesFit_5 {SL : Nat} {xs : Nat → Int32} {d : Nat} {p s q : Nat} {Q : Option Value → mm_H → Prop} {v1 : Int32} {v2 : Int32} {v3 : Int32} {v4 : Int32} {I : Nat → Nat → Int32} {J : Nat → Nat → Int64}  (k : (((I 65 88) ≤ v4 → ((v3 = 0 ∨ v3 = 1) ∧ Q (some (.int v3)) (hp p s q I J))) ∧ (¬ ((I 65 88) ≤ v4) → ((v3 = Int32.ofInt 0 → ((v3 = 0 ∨ v3 = 1) ∧ Q (some (.int v3)) (hp p s q I J))) ∧ (¬ (v3 = Int32.ofInt 0) → (mm_s SL xs (d + 1) 265 [.ref 65, .int v4, .int v2] (hp p s q I J) (fun r_ h_ => ∃ x1 I1 J1, r_ = some (.int x1) ∧ h_ = hp p s q I1 J1 ∧ ((x1 = Int32.ofInt 0 → w_X11_doesFit_5 SL xs d p s q Q v1 v2 (Int32.ofInt 1) (v4 + Int32.ofInt 1) I1 J1) ∧ (¬ (x1 = Int32.ofInt 0) → (vp_in v4 40 ∧ (mm_s SL xs (d + 1) 233 [.long (((I1 100 ((v4).toNatClampNeg))).toInt64), .int v1, .long (((I1 101 ((v4).toNatClampNeg))).toInt64)] (hp p s q I1 J1) (fun r_ h_ => ∃ x2 I2 J2, r_ = some (.long x2) ∧ h_ = hp p s q I2 J2 ∧ ((x2 = (((I2 102 ((v4).toNatClampNeg))).toInt64) → w_X11_doesFit_5 SL xs d p s q Q v1 v2 (Int32.ofInt 1) (v4 + Int32.ofInt 1) I2 J2) ∧ (¬ (x2 = (((I2 102 ((v4).toNatClampNeg))).toInt64)) → w_X11_doesFit_5 SL xs d p s q Q v1 v2 (Int32.ofInt 0) (v4 + Int32.ofInt 1) I2 J2)))))))))))))) : w_X11_doesFit_5 SL xs d p s q Q v1 v2 v3 v4 I J := by
  unfold w_X11_doesFit_5
  refine sp_iload 7 rfl rfl rfl ?_
  refine sp_aload_n 8 rfl rfl rfl ?_
  refine hq_getI 11 rfl rfl rfl ?_
  refine sp_ic_ge 14 rfl rfl (fun q => ?_) (fun q => ?_)
  · have k := k.1 q
    refine sp_iload_n 73 rfl rfl rfl ?_
    exact st_zret rfl rfl k.1 (Nat.le_refl _) (Nat.le_refl _) k.2
  · have k := k.2 q
    refine sp_iload_n 15 rfl rfl rfl ?_
    refine sp_if_eq 18 rfl rfl (fun q => ?_) (fun q => ?_)
    · have k := k.1 q
      refine sp_iload_n 73 rfl rfl rfl ?_
      exact st_zret rfl rfl k.1 (Nat.le_refl _) (Nat.le_refl _) k.2
    · have k := k.2 q
      refine sp_aload_n 19 rfl rfl rfl ?_
      refine sp_iload 21 rfl rfl rfl ?_
      refine sp_iload_n 22 rfl rfl rfl ?_
      refine sc_V 25 rfl rfl rfl rfl rfl (Nat.le_refl _) (Nat.le_refl _) rfl ?_
      refine mm_s_mono _ _ _ _ _ _ ?_ k
      rintro r_ h_ ⟨x1, I1, J1, rfl, rfl, k⟩
      refine sp_if_eq 28 rfl rfl (fun q => ?_) (fun q => ?_)
      · have k := k.1 q
        refine sp_iconst 61 rfl rfl ?_
        refine sp_goto rfl ?_
        refine sp_istore_n 66 rfl rfl rfl ?_
        refine sp_iinc 69 rfl rfl rfl rfl ?_
        refine sp_goto rfl ?_
        exact k
      · have k := k.2 q
        refine sp_aload_n 29 rfl rfl rfl ?_
        refine hq_getR 32 rfl rfl rfl rfl ?_
        refine sp_iload 34 rfl rfl rfl ?_
        have n1_ := k.1
        have k := k.2
        refine hq_iald 35 rfl rfl n1_ rfl ?_
        refine sp_i2l 36 rfl rfl ?_
        refine sp_iload_n 37 rfl rfl rfl ?_
        refine sp_aload_n 38 rfl rfl rfl ?_
        refine hq_getR 41 rfl rfl rfl rfl ?_
        refine sp_iload 43 rfl rfl rfl ?_
        refine hq_iald 44 rfl rfl n1_ rfl ?_
        refine sp_i2l 45 rfl rfl ?_
        refine sc_S 48 rfl rfl rfl rfl (Nat.le_refl _) (Nat.le_refl _) rfl ?_
        refine mm_s_mono _ _ _ _ _ _ ?_ k
        rintro r_ h_ ⟨x2, I2, J2, rfl, rfl, k⟩
        refine sp_aload_n 49 rfl rfl rfl ?_
        refine hq_getR 52 rfl rfl rfl rfl ?_
        refine sp_iload 54 rfl rfl rfl ?_
        refine hq_iald 55 rfl rfl n1_ rfl ?_
        refine sp_i2l 56 rfl rfl ?_
        refine sp_lcmp 57 rfl rfl ?_
        refine sp_if_ne 60 rfl rfl (fun q => ?_) (fun q => ?_)
        · have k := k.2 (fun z => q ((lg_cmp_eq _ _).mpr z))
          refine sp_iconst 65 rfl rfl ?_
          refine sp_istore_n 66 rfl rfl rfl ?_
          refine sp_iinc 69 rfl rfl rfl rfl ?_
          refine sp_goto rfl ?_
          exact k
        · have k := k.1 ((lg_cmp_eq _ _).mp q)
          refine sp_iconst 61 rfl rfl ?_
          refine sp_goto rfl ?_
          refine sp_istore_n 66 rfl rfl rfl ?_
          refine sp_iinc 69 rfl rfl rfl rfl ?_
          refine sp_goto rfl ?_
          exact k
def w_X11_greatestPart_5 (SL : Nat) (xs : Nat → Int32) (d : Nat) (p s q : Nat) (Q : Option Value → mm_H → Prop) (v1 : Int32) (v2 : Int32) (v3 : Int32) (v4 : Int32) (I : Nat → Nat → Int32) (J : Nat → Nat → Int64) : Prop := mm_w SL xs (mm_s SL xs (d + 1)) mm_am kX11_greatestPart 0 0 (some .int) Q 5 [some (.ref 65), some (.int v1), some (.int v2), some (.int v3), some (.int v4), none] [] (hp p s q I J) 0 0
def w_X11_greatestPart_29 (SL : Nat) (xs : Nat → Int32) (d : Nat) (p s q : Nat) (Q : Option Value → mm_H → Prop) (v1 : Int32) (v2 : Int32) (v3 : Int32) (v4 : Int32) (I : Nat → Nat → Int32) (J : Nat → Nat → Int64) : Prop := mm_w SL xs (mm_s SL xs (d + 1)) mm_am kX11_greatestPart 0 0 (some .int) Q 29 [some (.ref 65), some (.int v1), some (.int v2), some (.int v3), some (.int v4), none] [] (hp p s q I J) 0 0
theorem sg_X11_greatestPart {SL : Nat} {xs : Nat → Int32} {d : Nat} {p s q : Nat} {Q : Option Value → mm_H → Prop} {a0 : Int32} {a1 : Int32} {I : Nat → Nat → Int32} {J : Nat → Nat → Int64}  (k : w_X11_greatestPart_5 SL xs d p s q Q a0 a1 (Int32.ofInt 0) (Int32.ofInt 0) I J) : mm_s SL xs (d + 2) 268 [.ref 65, .int a0, .int a1] (hp p s q I J) Q := by
  refine e_X11_greatestPart rfl ?_
  refine sp_iconst 1 rfl rfl ?_
  refine sp_istore_n 2 rfl rfl rfl ?_
  refine sp_iconst 3 rfl rfl ?_
  refine sp_istore 5 rfl rfl rfl ?_
  exact k
theorem sg_X11_greatestPart_5 {SL : Nat} {xs : Nat → Int32} {d : Nat} {p s q : Nat} {Q : Option Value → mm_H → Prop} {v1 : Int32} {v2 : Int32} {v3 : Int32} {v4 : Int32} {I : Nat → Nat → Int32} {J : Nat → Nat → Int64}  (k : (((Int32.ofInt 60) ≤ v4 → w_X11_greatestPart_29 SL xs d p s q Q v1 v2 v3 (Int32.ofInt 1) I J) ∧ (¬ ((Int32.ofInt 60) ≤ v4) → (vp_in v4 60 ∧ w_X11_greatestPart_5 SL xs d p s q Q v1 v2 v3 (v4 + Int32.ofInt 1) (mm_u I 106 ((v4).toNatClampNeg) (Int32.ofInt 0)) J)))) : w_X11_greatestPart_5 SL xs d p s q Q v1 v2 v3 v4 I J := by
  unfold w_X11_greatestPart_5
  refine sp_iload 7 rfl rfl rfl ?_
  refine sp_bipush 9 rfl rfl ?_
  refine sp_I (y := Int32.ofInt 60) rfl ?_
  refine sp_ic_ge 12 rfl rfl (fun q => ?_) (fun q => ?_)
  · have k := k.1 q
    refine sp_iconst 27 rfl rfl ?_
    refine sp_istore 29 rfl rfl rfl ?_
    exact k
  · have k := k.2 q
    refine sp_aload_n 13 rfl rfl rfl ?_
    refine hq_getR 16 rfl rfl rfl rfl ?_
    refine sp_iload 18 rfl rfl rfl ?_
    refine sp_iconst 19 rfl rfl ?_
    have n1_ := k.1
    have k := k.2
    refine hq_iast 20 rfl rfl n1_ rfl ?_
    refine sp_iinc 23 rfl rfl rfl rfl ?_
    refine sp_goto rfl ?_
    exact k
theorem sg_X11_greatestPart_29 {SL : Nat} {xs : Nat → Int32} {d : Nat} {p s q : Nat} {Q : Option Value → mm_H → Prop} {v1 : Int32} {v2 : Int32} {v3 : Int32} {v4 : Int32} {I : Nat → Nat → Int32} {J : Nat → Nat → Int64}  (k : (((Int32.ofInt 200) < v4 → Q (some (.int v3)) (hp p s q I J)) ∧ (¬ ((Int32.ofInt 200) < v4) → (vp_in v4 201 ∧ (((I 105 ((v4).toNatClampNeg)) = Int32.ofInt 0 → w_X11_greatestPart_29 SL xs d p s q Q v1 v2 v3 (v4 + Int32.ofInt 1) I J) ∧ (¬ ((I 105 ((v4).toNatClampNeg)) = Int32.ofInt 0) → (mm_s SL xs (d + 1) 233 [.long ((v1).toInt64), .int v4, .long ((v2).toInt64)] (hp p s q I J) (fun r_ h_ => ∃ x1 I1 J1, r_ = some (.long x1) ∧ h_ = hp p s q I1 J1 ∧ (vp_in ((x1).toInt32) 60 ∧ ((((I1 106 ((((x1).toInt32)).toNatClampNeg)) + (Int32.ofInt 1)) ≤ v3 → w_X11_greatestPart_29 SL xs d p s q Q v1 v2 v3 (v4 + Int32.ofInt 1) (mm_u I1 106 ((((x1).toInt32)).toNatClampNeg) ((I1 106 ((((x1).toInt32)).toNatClampNeg)) + (Int32.ofInt 1))) J1) ∧ (¬ (((I1 106 ((((x1).toInt32)).toNatClampNeg)) + (Int32.ofInt 1)) ≤ v3) → w_X11_greatestPart_29 SL xs d p s q Q v1 v2 ((I1 106 ((((x1).toInt32)).toNatClampNeg)) + (Int32.ofInt 1)) (v4 + Int32.ofInt 1) (mm_u I1 106 ((((x1).toInt32)).toNatClampNeg) ((I1 106 ((((x1).toInt32)).toNatClampNeg)) + (Int32.ofInt 1))) J1))))))))))) : w_X11_greatestPart_29 SL xs d p s q Q v1 v2 v3 v4 I J := by
  unfold w_X11_greatestPart_29
  refine sp_iload 31 rfl rfl rfl ?_
  refine sp_sipush 34 rfl rfl ?_
  refine sp_I (y := Int32.ofInt 200) rfl ?_
  refine sp_ic_gt 37 rfl rfl (fun q => ?_) (fun q => ?_)
  · have k := k.1 q
    refine sp_iload_n 103 rfl rfl rfl ?_
    exact st_iret rfl rfl (Nat.le_refl _) (Nat.le_refl _) k
  · have k := k.2 q
    refine sp_aload_n 38 rfl rfl rfl ?_
    refine hq_getR 41 rfl rfl rfl rfl ?_
    refine sp_iload 43 rfl rfl rfl ?_
    have n2_ := k.1
    have k := k.2
    refine hq_zald 44 rfl rfl n2_ rfl ?_
    refine sp_if_ne 47 rfl rfl (fun q => ?_) (fun q => ?_)
    · have k := k.2 q
      refine sp_iload_n 51 rfl rfl rfl ?_
      refine sp_i2l 52 rfl rfl ?_
      refine sp_iload 54 rfl rfl rfl ?_
      refine sp_iload_n 55 rfl rfl rfl ?_
      refine sp_i2l 56 rfl rfl ?_
      refine sc_S 59 rfl rfl rfl rfl (Nat.le_refl _) (Nat.le_refl _) rfl ?_
      refine mm_s_mono _ _ _ _ _ _ ?_ k
      rintro r_ h_ ⟨x1, I1, J1, rfl, rfl, k⟩
      refine sp_l2i 60 rfl rfl ?_
      refine sp_istore 62 rfl rfl rfl ?_
      refine sp_aload_n 63 rfl rfl rfl ?_
      refine hq_getR 66 rfl rfl rfl rfl ?_
      refine sp_iload 68 rfl rfl rfl ?_
      refine sp_dup2 69 rfl rfl rfl rfl ?_
      have n3_ := k.1
      have k := k.2
      refine hq_iald 70 rfl rfl n3_ rfl ?_
      refine sp_iconst 71 rfl rfl ?_
      refine sp_iadd 72 rfl rfl ?_
      refine hq_iast 73 rfl rfl n3_ rfl ?_
      refine sp_aload_n 74 rfl rfl rfl ?_
      refine hq_getR 77 rfl rfl rfl rfl ?_
      refine sp_iload 79 rfl rfl rfl ?_
      refine hq_iald 80 rfl rfl n3_ rfl ?_
      refine sp_I (y := ((I1 106 ((((x1).toInt32)).toNatClampNeg)) + (Int32.ofInt 1))) (by simp [mm_u]) ?_
      refine sp_iload_n 81 rfl rfl rfl ?_
      refine sp_ic_le 84 rfl rfl (fun q => ?_) (fun q => ?_)
      · have k := k.1 q
        refine sp_iload_n 95 rfl rfl rfl ?_
        refine sp_istore_n 96 rfl rfl rfl ?_
        refine sp_iinc 99 rfl rfl rfl rfl ?_
        refine sp_goto rfl ?_
        refine st_wk (L1 := [some (.ref 65), some (.int v1), some (.int v2), some (.int v3), some (.int (v4 + Int32.ofInt 1)), none]) ⟨.inr rfl, .inr rfl, .inr rfl, .inr rfl, .inr rfl, .inl rfl, trivial⟩ ?_
        exact k
      · have k := k.2 q
        refine sp_aload_n 85 rfl rfl rfl ?_
        refine hq_getR 88 rfl rfl rfl rfl ?_
        refine sp_iload 90 rfl rfl rfl ?_
        refine hq_iald 91 rfl rfl n3_ rfl ?_
        refine sp_I (y := ((I1 106 ((((x1).toInt32)).toNatClampNeg)) + (Int32.ofInt 1))) (by simp [mm_u]) ?_
        refine sp_goto rfl ?_
        refine sp_istore_n 96 rfl rfl rfl ?_
        refine sp_iinc 99 rfl rfl rfl rfl ?_
        refine sp_goto rfl ?_
        refine st_wk (L1 := [some (.ref 65), some (.int v1), some (.int v2), some (.int ((I1 106 ((((x1).toInt32)).toNatClampNeg)) + (Int32.ofInt 1))), some (.int (v4 + Int32.ofInt 1)), none]) ⟨.inr rfl, .inr rfl, .inr rfl, .inr rfl, .inr rfl, .inl rfl, trivial⟩ ?_
        exact k
    · have k := k.1 q
      refine sp_goto rfl ?_
      refine sp_iinc 99 rfl rfl rfl rfl ?_
      refine sp_goto rfl ?_
      exact k
def w_X11_image_18 (SL : Nat) (xs : Nat → Int32) (d : Nat) (p s q : Nat) (Q : Option Value → mm_H → Prop) (v1 : Int32) (v2 : Int32) (I : Nat → Nat → Int32) (J : Nat → Nat → Int64) : Prop := mm_w SL xs (mm_s SL xs (d + 1)) mm_am kX11_image 0 0 (some .int) Q 18 [some (.ref 65), some (.int v1), some (.int v2), none] [] (hp p s q I J) 0 0
theorem sg_X11_image {SL : Nat} {xs : Nat → Int32} {d : Nat} {p s q : Nat} {Q : Option Value → mm_H → Prop} {a0 : Int32} {I : Nat → Nat → Int32} {J : Nat → Nat → Int64}  (k : (((sx_X11_isBox a0) = Int32.ofInt 0 → Q (some (.int (Int32.ofInt (-1)))) (hp p s q I J)) ∧ (¬ ((sx_X11_isBox a0) = Int32.ofInt 0) → (vp_in a0 3 ∧ w_X11_image_18 SL xs d p s q Q a0 (Int32.ofInt 0) (mm_u I 107 ((a0).toNatClampNeg) (Int32.ofInt 1)) J)))) : mm_s SL xs (d + 2) 271 [.ref 65, .int a0] (hp p s q I J) Q := by
  refine e_X11_image rfl ?_
  refine sp_iload_n 1 rfl rfl rfl ?_
  refine sc_S 4 rfl rfl rfl rfl (Nat.le_refl _) (Nat.le_refl _) rfl ?_
  refine cx_X11_isBox ?_
  refine sp_if_ne 7 rfl rfl (fun q => ?_) (fun q => ?_)
  · have k := k.2 q
    refine sp_aload_n 10 rfl rfl rfl ?_
    refine hq_getR 13 rfl rfl rfl rfl ?_
    refine sp_iload_n 14 rfl rfl rfl ?_
    refine sp_iconst 15 rfl rfl ?_
    have n1_ := k.1
    have k := k.2
    refine hq_zast 16 rfl rfl n1_ (by decide) rfl ?_
    refine sp_iconst 17 rfl rfl ?_
    refine sp_istore_n 18 rfl rfl rfl ?_
    exact k
  · have k := k.1 q
    refine sp_iconst 8 rfl rfl ?_
    exact st_iret rfl rfl (Nat.le_refl _) (Nat.le_refl _) k
theorem sg_X11_image_18 {SL : Nat} {xs : Nat → Int32} {d : Nat} {p s q : Nat} {Q : Option Value → mm_H → Prop} {v1 : Int32} {v2 : Int32} {I : Nat → Nat → Int32} {J : Nat → Nat → Int64}  (k : (((Int32.ofInt 60) ≤ v2 → (vp_in ((Int32.ofInt 6) * v1) 18 ∧ (vp_in (((Int32.ofInt 6) * v1) + (Int32.ofInt 1)) 18 ∧ (vp_in (((Int32.ofInt 6) * v1) + (Int32.ofInt 2)) 18 ∧ (vp_in (((Int32.ofInt 6) * v1) + (Int32.ofInt 3)) 18 ∧ (vp_in (Int32.ofInt 0) 2 ∧ (vp_in (((Int32.ofInt 6) * v1) + (Int32.ofInt 4)) 18 ∧ (vp_in (Int32.ofInt 1) 2 ∧ (vp_in (((Int32.ofInt 6) * v1) + (Int32.ofInt 5)) 18 ∧ (vp_in v1 3 ∧ (((I 65 64) = 0 ∨ (I 65 64) = 1) ∧ Q (some (.int (I 65 60))) (hp p s q (mm_u (mm_u (mm_u (mm_u (mm_u (mm_u (mm_u I 113 ((((Int32.ofInt 6) * v1)).toNatClampNeg) (I 65 59)) 113 (((((Int32.ofInt 6) * v1) + (Int32.ofInt 1))).toNatClampNeg) (I 65 60)) 113 (((((Int32.ofInt 6) * v1) + (Int32.ofInt 2))).toNatClampNeg) (I 65 61)) 113 (((((Int32.ofInt 6) * v1) + (Int32.ofInt 3))).toNatClampNeg) (I 65 62)) 113 (((((Int32.ofInt 6) * v1) + (Int32.ofInt 4))).toNatClampNeg) (I 90 (((Int32.ofInt 0)).toNatClampNeg))) 113 (((((Int32.ofInt 6) * v1) + (Int32.ofInt 5))).toNatClampNeg) (I 90 (((Int32.ofInt 1)).toNatClampNeg))) 109 ((v1).toNatClampNeg) (I 65 64)) J)))))))))))) ∧ (¬ ((Int32.ofInt 60) ≤ v2) → (vp_in v2 60 ∧ (vp_in (((Int32.ofInt 60) * v1) + v2) 180 ∧ (((I 91 ((v2).toNatClampNeg)) = 0 ∨ (I 91 ((v2).toNatClampNeg)) = 1) ∧ w_X11_image_18 SL xs d p s q Q v1 (v2 + Int32.ofInt 1) (mm_u (mm_u (mm_u (mm_u I 108 (((((Int32.ofInt 60) * v1) + v2)).toNatClampNeg) (I 91 ((v2).toNatClampNeg))) 110 (((((Int32.ofInt 60) * v1) + v2)).toNatClampNeg) (I 87 ((v2).toNatClampNeg))) 111 (((((Int32.ofInt 60) * v1) + v2)).toNatClampNeg) (I 88 ((v2).toNatClampNeg))) 112 (((((Int32.ofInt 60) * v1) + v2)).toNatClampNeg) (I 89 ((v2).toNatClampNeg))) J)))))) : w_X11_image_18 SL xs d p s q Q v1 v2 I J := by
  unfold w_X11_image_18
  refine sp_iload_n 19 rfl rfl rfl ?_
  refine sp_bipush 21 rfl rfl ?_
  refine sp_I (y := Int32.ofInt 60) rfl ?_
  refine sp_ic_ge 24 rfl rfl (fun q => ?_) (fun q => ?_)
  · have k := k.1 q
    refine sp_bipush 87 rfl rfl ?_
    refine sp_I (y := Int32.ofInt 6) rfl ?_
    refine sp_iload_n 88 rfl rfl rfl ?_
    refine sp_imul 89 rfl rfl ?_
    refine sp_istore_n 90 rfl rfl rfl ?_
    refine sp_aload_n 91 rfl rfl rfl ?_
    refine hq_getR 94 rfl rfl rfl rfl ?_
    refine sp_iload_n 95 rfl rfl rfl ?_
    refine sp_aload_n 96 rfl rfl rfl ?_
    refine hq_getI 99 rfl rfl rfl ?_
    have n2_ := k.1
    have k := k.2
    refine hq_iast 100 rfl rfl n2_ rfl ?_
    refine sp_aload_n 101 rfl rfl rfl ?_
    refine hq_getR 104 rfl rfl rfl rfl ?_
    refine sp_iload_n 105 rfl rfl rfl ?_
    refine sp_iconst 106 rfl rfl ?_
    refine sp_iadd 107 rfl rfl ?_
    refine sp_aload_n 108 rfl rfl rfl ?_
    refine hq_getI 111 rfl rfl rfl ?_
    refine sp_I (y := (I 65 60)) (by simp [mm_u]) ?_
    have n3_ := k.1
    have k := k.2
    refine hq_iast 112 rfl rfl n3_ rfl ?_
    refine sp_aload_n 113 rfl rfl rfl ?_
    refine hq_getR 116 rfl rfl rfl rfl ?_
    refine sp_iload_n 117 rfl rfl rfl ?_
    refine sp_iconst 118 rfl rfl ?_
    refine sp_iadd 119 rfl rfl ?_
    refine sp_aload_n 120 rfl rfl rfl ?_
    refine hq_getI 123 rfl rfl rfl ?_
    refine sp_I (y := (I 65 61)) (by simp [mm_u]) ?_
    have n4_ := k.1
    have k := k.2
    refine hq_iast 124 rfl rfl n4_ rfl ?_
    refine sp_aload_n 125 rfl rfl rfl ?_
    refine hq_getR 128 rfl rfl rfl rfl ?_
    refine sp_iload_n 129 rfl rfl rfl ?_
    refine sp_iconst 130 rfl rfl ?_
    refine sp_iadd 131 rfl rfl ?_
    refine sp_aload_n 132 rfl rfl rfl ?_
    refine hq_getI 135 rfl rfl rfl ?_
    refine sp_I (y := (I 65 62)) (by simp [mm_u]) ?_
    have n5_ := k.1
    have k := k.2
    refine hq_iast 136 rfl rfl n5_ rfl ?_
    refine sp_aload_n 137 rfl rfl rfl ?_
    refine hq_getR 140 rfl rfl rfl rfl ?_
    refine sp_iload_n 141 rfl rfl rfl ?_
    refine sp_iconst 142 rfl rfl ?_
    refine sp_iadd 143 rfl rfl ?_
    refine sp_aload_n 144 rfl rfl rfl ?_
    refine hq_getR 147 rfl rfl rfl rfl ?_
    refine sp_iconst 148 rfl rfl ?_
    have n6_ := k.1
    have k := k.2
    refine hq_iald 149 rfl rfl n6_ rfl ?_
    refine sp_I (y := (I 90 (((Int32.ofInt 0)).toNatClampNeg))) (by simp [mm_u]) ?_
    have n7_ := k.1
    have k := k.2
    refine hq_iast 150 rfl rfl n7_ rfl ?_
    refine sp_aload_n 151 rfl rfl rfl ?_
    refine hq_getR 154 rfl rfl rfl rfl ?_
    refine sp_iload_n 155 rfl rfl rfl ?_
    refine sp_iconst 156 rfl rfl ?_
    refine sp_iadd 157 rfl rfl ?_
    refine sp_aload_n 158 rfl rfl rfl ?_
    refine hq_getR 161 rfl rfl rfl rfl ?_
    refine sp_iconst 162 rfl rfl ?_
    have n8_ := k.1
    have k := k.2
    refine hq_iald 163 rfl rfl n8_ rfl ?_
    refine sp_I (y := (I 90 (((Int32.ofInt 1)).toNatClampNeg))) (by simp [mm_u]) ?_
    have n9_ := k.1
    have k := k.2
    refine hq_iast 164 rfl rfl n9_ rfl ?_
    refine sp_aload_n 165 rfl rfl rfl ?_
    refine hq_getR 168 rfl rfl rfl rfl ?_
    refine sp_iload_n 169 rfl rfl rfl ?_
    refine sp_aload_n 170 rfl rfl rfl ?_
    refine hq_getI 173 rfl rfl rfl ?_
    refine sp_I (y := (I 65 64)) (by simp [mm_u]) ?_
    have n10_ := k.1
    have k := k.2
    refine hq_zast 174 rfl rfl n10_ k.1 rfl ?_
    have k := k.2
    refine sp_aload_n 175 rfl rfl rfl ?_
    refine hq_getI 178 rfl rfl rfl ?_
    refine sp_I (y := (I 65 60)) (by simp [mm_u]) ?_
    exact st_iret rfl rfl (Nat.le_refl _) (Nat.le_refl _) k
  · have k := k.2 q
    refine sp_bipush 26 rfl rfl ?_
    refine sp_I (y := Int32.ofInt 60) rfl ?_
    refine sp_iload_n 27 rfl rfl rfl ?_
    refine sp_imul 28 rfl rfl ?_
    refine sp_iload_n 29 rfl rfl rfl ?_
    refine sp_iadd 30 rfl rfl ?_
    refine sp_istore_n 31 rfl rfl rfl ?_
    refine sp_aload_n 32 rfl rfl rfl ?_
    refine hq_getR 35 rfl rfl rfl rfl ?_
    refine sp_iload_n 36 rfl rfl rfl ?_
    refine sp_aload_n 37 rfl rfl rfl ?_
    refine hq_getR 40 rfl rfl rfl rfl ?_
    refine sp_iload_n 41 rfl rfl rfl ?_
    have n11_ := k.1
    have k := k.2
    refine hq_zald 42 rfl rfl n11_ rfl ?_
    have n12_ := k.1
    have k := k.2
    refine hq_zast 43 rfl rfl n12_ k.1 rfl ?_
    have k := k.2
    refine sp_aload_n 44 rfl rfl rfl ?_
    refine hq_getR 47 rfl rfl rfl rfl ?_
    refine sp_iload_n 48 rfl rfl rfl ?_
    refine sp_aload_n 49 rfl rfl rfl ?_
    refine hq_getR 52 rfl rfl rfl rfl ?_
    refine sp_iload_n 53 rfl rfl rfl ?_
    refine hq_iald 54 rfl rfl n11_ rfl ?_
    refine sp_I (y := (I 87 ((v2).toNatClampNeg))) (by simp [mm_u]) ?_
    refine hq_iast 55 rfl rfl n12_ rfl ?_
    refine sp_aload_n 56 rfl rfl rfl ?_
    refine hq_getR 59 rfl rfl rfl rfl ?_
    refine sp_iload_n 60 rfl rfl rfl ?_
    refine sp_aload_n 61 rfl rfl rfl ?_
    refine hq_getR 64 rfl rfl rfl rfl ?_
    refine sp_iload_n 65 rfl rfl rfl ?_
    refine hq_iald 66 rfl rfl n11_ rfl ?_
    refine sp_I (y := (I 88 ((v2).toNatClampNeg))) (by simp [mm_u]) ?_
    refine hq_iast 67 rfl rfl n12_ rfl ?_
    refine sp_aload_n 68 rfl rfl rfl ?_
    refine hq_getR 71 rfl rfl rfl rfl ?_
    refine sp_iload_n 72 rfl rfl rfl ?_
    refine sp_aload_n 73 rfl rfl rfl ?_
    refine hq_getR 76 rfl rfl rfl rfl ?_
    refine sp_iload_n 77 rfl rfl rfl ?_
    refine hq_iald 78 rfl rfl n11_ rfl ?_
    refine sp_I (y := (I 89 ((v2).toNatClampNeg))) (by simp [mm_u]) ?_
    refine hq_iast 79 rfl rfl n12_ rfl ?_
    refine sp_iinc 82 rfl rfl rfl rfl ?_
    refine sp_goto rfl ?_
    refine st_wk (L1 := [some (.ref 65), some (.int v1), some (.int (v2 + Int32.ofInt 1)), none]) ⟨.inr rfl, .inr rfl, .inr rfl, .inl rfl, trivial⟩ ?_
    exact k
def w_X11_back_20 (SL : Nat) (xs : Nat → Int32) (d : Nat) (p s q : Nat) (Q : Option Value → mm_H → Prop) (v1 : Int32) (v2 : Int32) (I : Nat → Nat → Int32) (J : Nat → Nat → Int64) : Prop := mm_w SL xs (mm_s SL xs (d + 1)) mm_am kX11_back 0 0 (some .int) Q 20 [some (.ref 65), some (.int v1), some (.int v2), none] [] (hp p s q I J) 0 0
theorem sg_X11_back {SL : Nat} {xs : Nat → Int32} {d : Nat} {p s q : Nat} {Q : Option Value → mm_H → Prop} {a0 : Int32} {I : Nat → Nat → Int32} {J : Nat → Nat → Int64}  (k : (((sx_X11_isBox a0) = Int32.ofInt 0 → Q (some (.int (Int32.ofInt (-1)))) (hp p s q I J)) ∧ (¬ ((sx_X11_isBox a0) = Int32.ofInt 0) → (vp_in a0 3 ∧ (((I 107 ((a0).toNatClampNeg)) = Int32.ofInt 0 → Q (some (.int (Int32.ofInt (-1)))) (hp p s q I J)) ∧ (¬ ((I 107 ((a0).toNatClampNeg)) = Int32.ofInt 0) → w_X11_back_20 SL xs d p s q Q a0 (Int32.ofInt 0) I J)))))) : mm_s SL xs (d + 2) 272 [.ref 65, .int a0] (hp p s q I J) Q := by
  refine e_X11_back rfl ?_
  refine sp_iload_n 1 rfl rfl rfl ?_
  refine sc_S 4 rfl rfl rfl rfl (Nat.le_refl _) (Nat.le_refl _) rfl ?_
  refine cx_X11_isBox ?_
  refine sp_if_eq 7 rfl rfl (fun q => ?_) (fun q => ?_)
  · have k := k.1 q
    refine sp_iconst 17 rfl rfl ?_
    exact st_iret rfl rfl (Nat.le_refl _) (Nat.le_refl _) k
  · have k := k.2 q
    refine sp_aload_n 8 rfl rfl rfl ?_
    refine hq_getR 11 rfl rfl rfl rfl ?_
    refine sp_iload_n 12 rfl rfl rfl ?_
    have n1_ := k.1
    have k := k.2
    refine hq_zald 13 rfl rfl n1_ rfl ?_
    refine sp_if_ne 16 rfl rfl (fun q => ?_) (fun q => ?_)
    · have k := k.2 q
      refine sp_iconst 19 rfl rfl ?_
      refine sp_istore_n 20 rfl rfl rfl ?_
      exact k
    · have k := k.1 q
      refine sp_iconst 17 rfl rfl ?_
      exact st_iret rfl rfl (Nat.le_refl _) (Nat.le_refl _) k
theorem sg_X11_back_20 {SL : Nat} {xs : Nat → Int32} {d : Nat} {p s q : Nat} {Q : Option Value → mm_H → Prop} {v1 : Int32} {v2 : Int32} {I : Nat → Nat → Int32} {J : Nat → Nat → Int64}  (k : (((Int32.ofInt 60) ≤ v2 → (vp_in ((Int32.ofInt 6) * v1) 18 ∧ (vp_in (((Int32.ofInt 6) * v1) + (Int32.ofInt 1)) 18 ∧ (vp_in (((Int32.ofInt 6) * v1) + (Int32.ofInt 2)) 18 ∧ (vp_in (((Int32.ofInt 6) * v1) + (Int32.ofInt 3)) 18 ∧ (vp_in (((Int32.ofInt 6) * v1) + (Int32.ofInt 4)) 18 ∧ (vp_in (Int32.ofInt 0) 2 ∧ (vp_in (((Int32.ofInt 6) * v1) + (Int32.ofInt 5)) 18 ∧ (vp_in (Int32.ofInt 1) 2 ∧ (vp_in v1 3 ∧ (((I 109 ((v1).toNatClampNeg)) = 0 ∨ (I 109 ((v1).toNatClampNeg)) = 1) ∧ Q (some (.int (I 113 (((((Int32.ofInt 6) * v1) + (Int32.ofInt 1))).toNatClampNeg)))) (hp p s q (mm_u (mm_u (mm_u (mm_u (mm_u (mm_u (mm_u I 65 59 (I 113 ((((Int32.ofInt 6) * v1)).toNatClampNeg))) 65 60 (I 113 (((((Int32.ofInt 6) * v1) + (Int32.ofInt 1))).toNatClampNeg))) 65 61 (I 113 (((((Int32.ofInt 6) * v1) + (Int32.ofInt 2))).toNatClampNeg))) 65 62 (I 113 (((((Int32.ofInt 6) * v1) + (Int32.ofInt 3))).toNatClampNeg))) 90 (((Int32.ofInt 0)).toNatClampNeg) (I 113 (((((Int32.ofInt 6) * v1) + (Int32.ofInt 4))).toNatClampNeg))) 90 (((Int32.ofInt 1)).toNatClampNeg) (I 113 (((((Int32.ofInt 6) * v1) + (Int32.ofInt 5))).toNatClampNeg))) 65 64 (I 109 ((v1).toNatClampNeg))) J)))))))))))) ∧ (¬ ((Int32.ofInt 60) ≤ v2) → (vp_in (((Int32.ofInt 60) * v1) + v2) 180 ∧ (vp_in v2 60 ∧ (((I 108 (((((Int32.ofInt 60) * v1) + v2)).toNatClampNeg)) = 0 ∨ (I 108 (((((Int32.ofInt 60) * v1) + v2)).toNatClampNeg)) = 1) ∧ w_X11_back_20 SL xs d p s q Q v1 (v2 + Int32.ofInt 1) (mm_u (mm_u (mm_u (mm_u I 91 ((v2).toNatClampNeg) (I 108 (((((Int32.ofInt 60) * v1) + v2)).toNatClampNeg))) 87 ((v2).toNatClampNeg) (I 110 (((((Int32.ofInt 60) * v1) + v2)).toNatClampNeg))) 88 ((v2).toNatClampNeg) (I 111 (((((Int32.ofInt 60) * v1) + v2)).toNatClampNeg))) 89 ((v2).toNatClampNeg) (I 112 (((((Int32.ofInt 60) * v1) + v2)).toNatClampNeg))) J)))))) : w_X11_back_20 SL xs d p s q Q v1 v2 I J := by
  unfold w_X11_back_20
  refine sp_iload_n 21 rfl rfl rfl ?_
  refine sp_bipush 23 rfl rfl ?_
  refine sp_I (y := Int32.ofInt 60) rfl ?_
  refine sp_ic_ge 26 rfl rfl (fun q => ?_) (fun q => ?_)
  · have k := k.1 q
    refine sp_bipush 89 rfl rfl ?_
    refine sp_I (y := Int32.ofInt 6) rfl ?_
    refine sp_iload_n 90 rfl rfl rfl ?_
    refine sp_imul 91 rfl rfl ?_
    refine sp_istore_n 92 rfl rfl rfl ?_
    refine sp_aload_n 93 rfl rfl rfl ?_
    refine sp_aload_n 94 rfl rfl rfl ?_
    refine hq_getR 97 rfl rfl rfl rfl ?_
    refine sp_iload_n 98 rfl rfl rfl ?_
    have n2_ := k.1
    have k := k.2
    refine hq_iald 99 rfl rfl n2_ rfl ?_
    refine hq_putI 102 rfl rfl rfl ?_
    refine sp_aload_n 103 rfl rfl rfl ?_
    refine sp_aload_n 104 rfl rfl rfl ?_
    refine hq_getR 107 rfl rfl rfl rfl ?_
    refine sp_iload_n 108 rfl rfl rfl ?_
    refine sp_iconst 109 rfl rfl ?_
    refine sp_iadd 110 rfl rfl ?_
    have n3_ := k.1
    have k := k.2
    refine hq_iald 111 rfl rfl n3_ rfl ?_
    refine sp_I (y := (I 113 (((((Int32.ofInt 6) * v1) + (Int32.ofInt 1))).toNatClampNeg))) (by simp [mm_u]) ?_
    refine hq_putI 114 rfl rfl rfl ?_
    refine sp_aload_n 115 rfl rfl rfl ?_
    refine sp_aload_n 116 rfl rfl rfl ?_
    refine hq_getR 119 rfl rfl rfl rfl ?_
    refine sp_iload_n 120 rfl rfl rfl ?_
    refine sp_iconst 121 rfl rfl ?_
    refine sp_iadd 122 rfl rfl ?_
    have n4_ := k.1
    have k := k.2
    refine hq_iald 123 rfl rfl n4_ rfl ?_
    refine sp_I (y := (I 113 (((((Int32.ofInt 6) * v1) + (Int32.ofInt 2))).toNatClampNeg))) (by simp [mm_u]) ?_
    refine hq_putI 126 rfl rfl rfl ?_
    refine sp_aload_n 127 rfl rfl rfl ?_
    refine sp_aload_n 128 rfl rfl rfl ?_
    refine hq_getR 131 rfl rfl rfl rfl ?_
    refine sp_iload_n 132 rfl rfl rfl ?_
    refine sp_iconst 133 rfl rfl ?_
    refine sp_iadd 134 rfl rfl ?_
    have n5_ := k.1
    have k := k.2
    refine hq_iald 135 rfl rfl n5_ rfl ?_
    refine sp_I (y := (I 113 (((((Int32.ofInt 6) * v1) + (Int32.ofInt 3))).toNatClampNeg))) (by simp [mm_u]) ?_
    refine hq_putI 138 rfl rfl rfl ?_
    refine sp_aload_n 139 rfl rfl rfl ?_
    refine hq_getR 142 rfl rfl rfl rfl ?_
    refine sp_iconst 143 rfl rfl ?_
    refine sp_aload_n 144 rfl rfl rfl ?_
    refine hq_getR 147 rfl rfl rfl rfl ?_
    refine sp_iload_n 148 rfl rfl rfl ?_
    refine sp_iconst 149 rfl rfl ?_
    refine sp_iadd 150 rfl rfl ?_
    have n6_ := k.1
    have k := k.2
    refine hq_iald 151 rfl rfl n6_ rfl ?_
    refine sp_I (y := (I 113 (((((Int32.ofInt 6) * v1) + (Int32.ofInt 4))).toNatClampNeg))) (by simp [mm_u]) ?_
    have n7_ := k.1
    have k := k.2
    refine hq_iast 152 rfl rfl n7_ rfl ?_
    refine sp_aload_n 153 rfl rfl rfl ?_
    refine hq_getR 156 rfl rfl rfl rfl ?_
    refine sp_iconst 157 rfl rfl ?_
    refine sp_aload_n 158 rfl rfl rfl ?_
    refine hq_getR 161 rfl rfl rfl rfl ?_
    refine sp_iload_n 162 rfl rfl rfl ?_
    refine sp_iconst 163 rfl rfl ?_
    refine sp_iadd 164 rfl rfl ?_
    have n8_ := k.1
    have k := k.2
    refine hq_iald 165 rfl rfl n8_ rfl ?_
    refine sp_I (y := (I 113 (((((Int32.ofInt 6) * v1) + (Int32.ofInt 5))).toNatClampNeg))) (by simp [mm_u]) ?_
    have n9_ := k.1
    have k := k.2
    refine hq_iast 166 rfl rfl n9_ rfl ?_
    refine sp_aload_n 167 rfl rfl rfl ?_
    refine sp_aload_n 168 rfl rfl rfl ?_
    refine hq_getR 171 rfl rfl rfl rfl ?_
    refine sp_iload_n 172 rfl rfl rfl ?_
    have n10_ := k.1
    have k := k.2
    refine hq_zald 173 rfl rfl n10_ rfl ?_
    refine sp_I (y := (I 109 ((v1).toNatClampNeg))) (by simp [mm_u]) ?_
    refine hq_putZ 176 rfl rfl k.1 rfl ?_
    have k := k.2
    refine sp_aload_n 177 rfl rfl rfl ?_
    refine hq_getI 180 rfl rfl rfl ?_
    refine sp_I (y := (I 113 (((((Int32.ofInt 6) * v1) + (Int32.ofInt 1))).toNatClampNeg))) (by simp [mm_u]) ?_
    exact st_iret rfl rfl (Nat.le_refl _) (Nat.le_refl _) k
  · have k := k.2 q
    refine sp_bipush 28 rfl rfl ?_
    refine sp_I (y := Int32.ofInt 60) rfl ?_
    refine sp_iload_n 29 rfl rfl rfl ?_
    refine sp_imul 30 rfl rfl ?_
    refine sp_iload_n 31 rfl rfl rfl ?_
    refine sp_iadd 32 rfl rfl ?_
    refine sp_istore_n 33 rfl rfl rfl ?_
    refine sp_aload_n 34 rfl rfl rfl ?_
    refine hq_getR 37 rfl rfl rfl rfl ?_
    refine sp_iload_n 38 rfl rfl rfl ?_
    refine sp_aload_n 39 rfl rfl rfl ?_
    refine hq_getR 42 rfl rfl rfl rfl ?_
    refine sp_iload_n 43 rfl rfl rfl ?_
    have n11_ := k.1
    have k := k.2
    refine hq_zald 44 rfl rfl n11_ rfl ?_
    have n12_ := k.1
    have k := k.2
    refine hq_zast 45 rfl rfl n12_ k.1 rfl ?_
    have k := k.2
    refine sp_aload_n 46 rfl rfl rfl ?_
    refine hq_getR 49 rfl rfl rfl rfl ?_
    refine sp_iload_n 50 rfl rfl rfl ?_
    refine sp_aload_n 51 rfl rfl rfl ?_
    refine hq_getR 54 rfl rfl rfl rfl ?_
    refine sp_iload_n 55 rfl rfl rfl ?_
    refine hq_iald 56 rfl rfl n11_ rfl ?_
    refine sp_I (y := (I 110 (((((Int32.ofInt 60) * v1) + v2)).toNatClampNeg))) (by simp [mm_u]) ?_
    refine hq_iast 57 rfl rfl n12_ rfl ?_
    refine sp_aload_n 58 rfl rfl rfl ?_
    refine hq_getR 61 rfl rfl rfl rfl ?_
    refine sp_iload_n 62 rfl rfl rfl ?_
    refine sp_aload_n 63 rfl rfl rfl ?_
    refine hq_getR 66 rfl rfl rfl rfl ?_
    refine sp_iload_n 67 rfl rfl rfl ?_
    refine hq_iald 68 rfl rfl n11_ rfl ?_
    refine sp_I (y := (I 111 (((((Int32.ofInt 60) * v1) + v2)).toNatClampNeg))) (by simp [mm_u]) ?_
    refine hq_iast 69 rfl rfl n12_ rfl ?_
    refine sp_aload_n 70 rfl rfl rfl ?_
    refine hq_getR 73 rfl rfl rfl rfl ?_
    refine sp_iload_n 74 rfl rfl rfl ?_
    refine sp_aload_n 75 rfl rfl rfl ?_
    refine hq_getR 78 rfl rfl rfl rfl ?_
    refine sp_iload_n 79 rfl rfl rfl ?_
    refine hq_iald 80 rfl rfl n11_ rfl ?_
    refine sp_I (y := (I 112 (((((Int32.ofInt 60) * v1) + v2)).toNatClampNeg))) (by simp [mm_u]) ?_
    refine hq_iast 81 rfl rfl n12_ rfl ?_
    refine sp_iinc 84 rfl rfl rfl rfl ?_
    refine sp_goto rfl ?_
    refine st_wk (L1 := [some (.ref 65), some (.int v1), some (.int (v2 + Int32.ofInt 1)), none]) ⟨.inr rfl, .inr rfl, .inr rfl, .inl rfl, trivial⟩ ?_
    exact k
theorem sg_X11_want {SL : Nat} {xs : Nat → Int32} {d : Nat} {p s q : Nat} {Q : Option Value → mm_H → Prop} {a0 : Int64} {I : Nat → Nat → Int32} {J : Nat → Nat → Int64}  (k : (((I 65 2) ≤ Int32.ofInt 0 → (((sy_X11_isWord a0 I J) = Int32.ofInt 0 → (mm_s SL xs (d + 2) 173 [.ref 65, .int (Int32.ofInt 2)] (hp p s q I J) (fun r_ h_ => ∃ I2 J2, r_ = none ∧ h_ = hp p s q I2 J2 ∧ Q none (hp p s q I2 J2)))) ∧ (¬ ((sy_X11_isWord a0 I J) = Int32.ofInt 0) → (mm_s SL xs (d + 2) 172 [.ref 65] (hp p s q I J) (fun r_ h_ => ∃ I1 J1, r_ = none ∧ h_ = hp p s q I1 J1 ∧ Q none (hp p s q I1 J1)))))) ∧ (¬ ((I 65 2) ≤ Int32.ofInt 0) → Q none (hp p s q I J)))) : mm_s SL xs (d + 3) 176 [.ref 65, .long a0] (hp p s q I J) Q := by
  refine e_X11_want rfl ?_
  refine sp_aload_n 1 rfl rfl rfl ?_
  refine hq_getI 4 rfl rfl rfl ?_
  refine sp_if_le 7 rfl rfl (fun q => ?_) (fun q => ?_)
  · have k := k.1 q
    refine sp_aload_n 9 rfl rfl rfl ?_
    refine sp_lload_n 10 rfl rfl rfl ?_
    refine sc_V 13 rfl rfl rfl rfl rfl (Nat.le_refl _) (Nat.le_refl _) rfl ?_
    refine cy_X11_isWord ?_
    refine sp_if_ne 16 rfl rfl (fun q => ?_) (fun q => ?_)
    · have k := k.2 q
      refine sp_aload_n 25 rfl rfl rfl ?_
      refine sc_V 28 rfl rfl rfl rfl rfl (Nat.le_refl _) (Nat.le_refl _) rfl ?_
      refine mm_s_mono _ _ _ _ _ _ ?_ k
      rintro r_ h_ ⟨I1, J1, rfl, rfl, k⟩
      exact st_vret rfl rfl (Nat.le_refl _) (Nat.le_refl _) k
    · have k := k.1 q
      refine sp_aload_n 17 rfl rfl rfl ?_
      refine sp_iconst 18 rfl rfl ?_
      refine sc_V 21 rfl rfl rfl rfl rfl (Nat.le_refl _) (Nat.le_refl _) rfl ?_
      refine mm_s_mono _ _ _ _ _ _ ?_ k
      rintro r_ h_ ⟨I2, J2, rfl, rfl, k⟩
      refine sp_goto rfl ?_
      exact st_vret rfl rfl (Nat.le_refl _) (Nat.le_refl _) k
  · have k := k.2 q
    exact st_vret rfl rfl (Nat.le_refl _) (Nat.le_refl _) k
theorem sg_X11_toldNumber {SL : Nat} {xs : Nat → Int32} {d : Nat} {p s q : Nat} {Q : Option Value → mm_H → Prop} {a0 : Int32} {a1 : Int32} {I : Nat → Nat → Int32} {J : Nat → Nat → Int64}  (k : (((I 65 2) ≤ Int32.ofInt 0 → (((I 65 6) = (Int32.ofInt 2) → (((I 65 8) < a0 → (mm_s SL xs (d + 2) 173 [.ref 65, .int (Int32.ofInt 4)] (hp p s q I J) (fun r_ h_ => ∃ I1 J1, r_ = none ∧ h_ = hp p s q I1 J1 ∧ (((I1 65 2) = Int32.ofInt 0 → (mm_s SL xs (d + 2) 172 [.ref 65] (hp p s q I1 J1) (fun r_ h_ => ∃ I2 J2, r_ = none ∧ h_ = hp p s q I2 J2 ∧ Q (some (.int (I1 65 8))) (hp p s q I2 J2)))) ∧ (¬ ((I1 65 2) = Int32.ofInt 0) → Q (some (.int (I1 65 8))) (hp p s q I1 J1)))))) ∧ (¬ ((I 65 8) < a0) → (((I 65 8) ≤ a1 → (((I 65 2) = Int32.ofInt 0 → (mm_s SL xs (d + 2) 172 [.ref 65] (hp p s q I J) (fun r_ h_ => ∃ I3 J3, r_ = none ∧ h_ = hp p s q I3 J3 ∧ Q (some (.int (I 65 8))) (hp p s q I3 J3)))) ∧ (¬ ((I 65 2) = Int32.ofInt 0) → Q (some (.int (I 65 8))) (hp p s q I J)))) ∧ (¬ ((I 65 8) ≤ a1) → (mm_s SL xs (d + 2) 173 [.ref 65, .int (Int32.ofInt 4)] (hp p s q I J) (fun r_ h_ => ∃ I4 J4, r_ = none ∧ h_ = hp p s q I4 J4 ∧ (((I4 65 2) = Int32.ofInt 0 → (mm_s SL xs (d + 2) 172 [.ref 65] (hp p s q I4 J4) (fun r_ h_ => ∃ I5 J5, r_ = none ∧ h_ = hp p s q I5 J5 ∧ Q (some (.int (I4 65 8))) (hp p s q I5 J5)))) ∧ (¬ ((I4 65 2) = Int32.ofInt 0) → Q (some (.int (I4 65 8))) (hp p s q I4 J4)))))))))) ∧ (¬ ((I 65 6) = (Int32.ofInt 2)) → (mm_s SL xs (d + 2) 173 [.ref 65, .int (Int32.ofInt 2)] (hp p s q I J) (fun r_ h_ => ∃ I6 J6, r_ = none ∧ h_ = hp p s q I6 J6 ∧ (((I6 65 2) = Int32.ofInt 0 → (mm_s SL xs (d + 2) 172 [.ref 65] (hp p s q I6 J6) (fun r_ h_ => ∃ I7 J7, r_ = none ∧ h_ = hp p s q I7 J7 ∧ Q (some (.int (I6 65 8))) (hp p s q I7 J7)))) ∧ (¬ ((I6 65 2) = Int32.ofInt 0) → Q (some (.int (I6 65 8))) (hp p s q I6 J6)))))))) ∧ (¬ ((I 65 2) ≤ Int32.ofInt 0) → Q (some (.int (Int32.ofInt 0))) (hp p s q I J)))) : mm_s SL xs (d + 3) 177 [.ref 65, .int a0, .int a1] (hp p s q I J) Q := by
  refine e_X11_toldNumber rfl ?_
  refine sp_aload_n 1 rfl rfl rfl ?_
  refine hq_getI 4 rfl rfl rfl ?_
  refine sp_if_le 7 rfl rfl (fun q => ?_) (fun q => ?_)
  · have k := k.1 q
    refine sp_aload_n 10 rfl rfl rfl ?_
    refine hq_getI 13 rfl rfl rfl ?_
    refine sp_iconst 14 rfl rfl ?_
    refine sp_ic_eq 17 rfl rfl (fun q => ?_) (fun q => ?_)
    · have k := k.1 q
      refine sp_aload_n 26 rfl rfl rfl ?_
      refine hq_getI 29 rfl rfl rfl ?_
      refine sp_iload_n 30 rfl rfl rfl ?_
      refine sp_ic_lt 33 rfl rfl (fun q => ?_) (fun q => ?_)
      · have k := k.1 q
        refine sp_aload_n 42 rfl rfl rfl ?_
        refine sp_iconst 43 rfl rfl ?_
        refine sc_V 46 rfl rfl rfl rfl rfl (Nat.le_refl _) (Nat.le_refl _) rfl ?_
        refine mm_s_mono _ _ _ _ _ _ ?_ k
        rintro r_ h_ ⟨I1, J1, rfl, rfl, k⟩
        refine sp_aload_n 47 rfl rfl rfl ?_
        refine hq_getI 50 rfl rfl rfl ?_
        refine sp_istore_n 51 rfl rfl rfl ?_
        refine sp_aload_n 52 rfl rfl rfl ?_
        refine hq_getI 55 rfl rfl rfl ?_
        refine sp_if_ne 58 rfl rfl (fun q => ?_) (fun q => ?_)
        · have k := k.2 q
          refine sp_iload_n 63 rfl rfl rfl ?_
          exact st_iret rfl rfl (Nat.le_refl _) (Nat.le_refl _) k
        · have k := k.1 q
          refine sp_aload_n 59 rfl rfl rfl ?_
          refine sc_V 62 rfl rfl rfl rfl rfl (Nat.le_refl _) (Nat.le_refl _) rfl ?_
          refine mm_s_mono _ _ _ _ _ _ ?_ k
          rintro r_ h_ ⟨I2, J2, rfl, rfl, k⟩
          refine sp_iload_n 63 rfl rfl rfl ?_
          exact st_iret rfl rfl (Nat.le_refl _) (Nat.le_refl _) k
      · have k := k.2 q
        refine sp_aload_n 34 rfl rfl rfl ?_
        refine hq_getI 37 rfl rfl rfl ?_
        refine sp_iload_n 38 rfl rfl rfl ?_
        refine sp_ic_le 41 rfl rfl (fun q => ?_) (fun q => ?_)
        · have k := k.1 q
          refine sp_aload_n 47 rfl rfl rfl ?_
          refine hq_getI 50 rfl rfl rfl ?_
          refine sp_istore_n 51 rfl rfl rfl ?_
          refine sp_aload_n 52 rfl rfl rfl ?_
          refine hq_getI 55 rfl rfl rfl ?_
          refine sp_if_ne 58 rfl rfl (fun q => ?_) (fun q => ?_)
          · have k := k.2 q
            refine sp_iload_n 63 rfl rfl rfl ?_
            exact st_iret rfl rfl (Nat.le_refl _) (Nat.le_refl _) k
          · have k := k.1 q
            refine sp_aload_n 59 rfl rfl rfl ?_
            refine sc_V 62 rfl rfl rfl rfl rfl (Nat.le_refl _) (Nat.le_refl _) rfl ?_
            refine mm_s_mono _ _ _ _ _ _ ?_ k
            rintro r_ h_ ⟨I3, J3, rfl, rfl, k⟩
            refine sp_iload_n 63 rfl rfl rfl ?_
            exact st_iret rfl rfl (Nat.le_refl _) (Nat.le_refl _) k
        · have k := k.2 q
          refine sp_aload_n 42 rfl rfl rfl ?_
          refine sp_iconst 43 rfl rfl ?_
          refine sc_V 46 rfl rfl rfl rfl rfl (Nat.le_refl _) (Nat.le_refl _) rfl ?_
          refine mm_s_mono _ _ _ _ _ _ ?_ k
          rintro r_ h_ ⟨I4, J4, rfl, rfl, k⟩
          refine sp_aload_n 47 rfl rfl rfl ?_
          refine hq_getI 50 rfl rfl rfl ?_
          refine sp_istore_n 51 rfl rfl rfl ?_
          refine sp_aload_n 52 rfl rfl rfl ?_
          refine hq_getI 55 rfl rfl rfl ?_
          refine sp_if_ne 58 rfl rfl (fun q => ?_) (fun q => ?_)
          · have k := k.2 q
            refine sp_iload_n 63 rfl rfl rfl ?_
            exact st_iret rfl rfl (Nat.le_refl _) (Nat.le_refl _) k
          · have k := k.1 q
            refine sp_aload_n 59 rfl rfl rfl ?_
            refine sc_V 62 rfl rfl rfl rfl rfl (Nat.le_refl _) (Nat.le_refl _) rfl ?_
            refine mm_s_mono _ _ _ _ _ _ ?_ k
            rintro r_ h_ ⟨I5, J5, rfl, rfl, k⟩
            refine sp_iload_n 63 rfl rfl rfl ?_
            exact st_iret rfl rfl (Nat.le_refl _) (Nat.le_refl _) k
    · have k := k.2 q
      refine sp_aload_n 18 rfl rfl rfl ?_
      refine sp_iconst 19 rfl rfl ?_
      refine sc_V 22 rfl rfl rfl rfl rfl (Nat.le_refl _) (Nat.le_refl _) rfl ?_
      refine mm_s_mono _ _ _ _ _ _ ?_ k
      rintro r_ h_ ⟨I6, J6, rfl, rfl, k⟩
      refine sp_goto rfl ?_
      refine sp_aload_n 47 rfl rfl rfl ?_
      refine hq_getI 50 rfl rfl rfl ?_
      refine sp_istore_n 51 rfl rfl rfl ?_
      refine sp_aload_n 52 rfl rfl rfl ?_
      refine hq_getI 55 rfl rfl rfl ?_
      refine sp_if_ne 58 rfl rfl (fun q => ?_) (fun q => ?_)
      · have k := k.2 q
        refine sp_iload_n 63 rfl rfl rfl ?_
        exact st_iret rfl rfl (Nat.le_refl _) (Nat.le_refl _) k
      · have k := k.1 q
        refine sp_aload_n 59 rfl rfl rfl ?_
        refine sc_V 62 rfl rfl rfl rfl rfl (Nat.le_refl _) (Nat.le_refl _) rfl ?_
        refine mm_s_mono _ _ _ _ _ _ ?_ k
        rintro r_ h_ ⟨I7, J7, rfl, rfl, k⟩
        refine sp_iload_n 63 rfl rfl rfl ?_
        exact st_iret rfl rfl (Nat.le_refl _) (Nat.le_refl _) k
  · have k := k.2 q
    refine sp_iconst 8 rfl rfl ?_
    exact st_iret rfl rfl (Nat.le_refl _) (Nat.le_refl _) k
def w_X11_settle_0 (SL : Nat) (xs : Nat → Int32) (d : Nat) (p s q : Nat) (Q : Option Value → mm_H → Prop) (v1 : Int32) (I : Nat → Nat → Int32) (J : Nat → Nat → Int64) : Prop := mm_w SL xs (mm_s SL xs (d + 2)) mm_am kX11_settle 0 0 none Q 0 [some (.ref 65), some (.int v1)] [] (hp p s q I J) 0 0
theorem sg_X11_settle_0 {SL : Nat} {xs : Nat → Int32} {d : Nat} {p s q : Nat} {Q : Option Value → mm_H → Prop} {v1 : Int32} {I : Nat → Nat → Int32} {J : Nat → Nat → Int64}  (k : (mm_s SL xs (d + 2) 180 [.ref 65] (hp p s q I J) (fun r_ h_ => ∃ x1 I1 J1, r_ = some (.int x1) ∧ h_ = hp p s q I1 J1 ∧ ((x1 = (Int32.ofInt 40) → Q none (hp p s q I1 J1)) ∧ (¬ (x1 = (Int32.ofInt 40)) → (mm_s SL xs (d + 2) 180 [.ref 65] (hp p s q I1 J1) (fun r_ h_ => ∃ x2 I2 J2, r_ = some (.int x2) ∧ h_ = hp p s q I2 J2 ∧ (((sx_X11_rank x2) < v1 → Q none (hp p s q I2 J2)) ∧ (¬ ((sx_X11_rank x2) < v1) → (mm_s SL xs (d + 2) 182 [.ref 65] (hp p s q I2 J2) (fun r_ h_ => ∃ I3 J3, r_ = none ∧ h_ = hp p s q I3 J3 ∧ w_X11_settle_0 SL xs d p s q Q v1 I3 J3))))))))))) : w_X11_settle_0 SL xs d p s q Q v1 I J := by
  unfold w_X11_settle_0
  refine sp_aload_n 1 rfl rfl rfl ?_
  refine sc_V 4 rfl rfl rfl rfl rfl (Nat.le_refl _) (Nat.le_refl _) rfl ?_
  refine mm_s_mono _ _ _ _ _ _ ?_ k
  rintro r_ h_ ⟨x1, I1, J1, rfl, rfl, k⟩
  refine sp_bipush 6 rfl rfl ?_
  refine sp_I (y := Int32.ofInt 40) rfl ?_
  refine sp_ic_eq 9 rfl rfl (fun q => ?_) (fun q => ?_)
  · have k := k.1 q
    exact st_vret rfl rfl (Nat.le_refl _) (Nat.le_refl _) k
  · have k := k.2 q
    refine sp_aload_n 10 rfl rfl rfl ?_
    refine sc_V 13 rfl rfl rfl rfl rfl (Nat.le_refl _) (Nat.le_refl _) rfl ?_
    refine mm_s_mono _ _ _ _ _ _ ?_ k
    rintro r_ h_ ⟨x2, I2, J2, rfl, rfl, k⟩
    refine sc_S 16 rfl rfl rfl rfl (Nat.le_refl _) (Nat.le_refl _) rfl ?_
    refine cx_X11_rank ?_
    refine sp_iload_n 17 rfl rfl rfl ?_
    refine sp_ic_lt 20 rfl rfl (fun q => ?_) (fun q => ?_)
    · have k := k.1 q
      exact st_vret rfl rfl (Nat.le_refl _) (Nat.le_refl _) k
    · have k := k.2 q
      refine sp_aload_n 21 rfl rfl rfl ?_
      refine sc_V 24 rfl rfl rfl rfl rfl (Nat.le_refl _) (Nat.le_refl _) rfl ?_
      refine mm_s_mono _ _ _ _ _ _ ?_ k
      rintro r_ h_ ⟨I3, J3, rfl, rfl, k⟩
      refine sp_goto rfl ?_
      exact k
def w_X11_operand_18 (SL : Nat) (xs : Nat → Int32) (d : Nat) (p s q : Nat) (Q : Option Value → mm_H → Prop) (v1 : Int32) (I : Nat → Nat → Int32) (J : Nat → Nat → Int64) : Prop := mm_w SL xs (mm_s SL xs (d + 2)) mm_am kX11_operand 0 0 (some .int) Q 18 [some (.ref 65), some (.int v1), none, none, none] [] (hp p s q I J) 0 0
def w_X11_operand_20 (SL : Nat) (xs : Nat → Int32) (d : Nat) (p s q : Nat) (Q : Option Value → mm_H → Prop) (v1 : Int32) (v2 : Int32) (I : Nat → Nat → Int32) (J : Nat → Nat → Int64) : Prop := mm_w SL xs (mm_s SL xs (d + 2)) mm_am kX11_operand 0 0 (some .int) Q 20 [some (.ref 65), some (.int v1), some (.int v2), none, none] [] (hp p s q I J) 0 0
def w_X11_operand_46 (SL : Nat) (xs : Nat → Int32) (d : Nat) (p s q : Nat) (Q : Option Value → mm_H → Prop) (v1 : Int32) (v2 : Int32) (v3 : Int32) (I : Nat → Nat → Int32) (J : Nat → Nat → Int64) : Prop := mm_w SL xs (mm_s SL xs (d + 2)) mm_am kX11_operand 0 0 (some .int) Q 46 [some (.ref 65), some (.int v1), some (.int v2), some (.int v3), none] [] (hp p s q I J) 0 0
def w_X11_operand_53 (SL : Nat) (xs : Nat → Int32) (d : Nat) (p s q : Nat) (Q : Option Value → mm_H → Prop) (v1 : Int32) (v2 : Int32) (v3 : Int32) (v4 : Int32) (I : Nat → Nat → Int32) (J : Nat → Nat → Int64) : Prop := mm_w SL xs (mm_s SL xs (d + 2)) mm_am kX11_operand 0 0 (some .int) Q 53 [some (.ref 65), some (.int v1), some (.int v2), some (.int v3), some (.int v4)] [] (hp p s q I J) 0 0
def w_X11_operand_62 (SL : Nat) (xs : Nat → Int32) (d : Nat) (p s q : Nat) (Q : Option Value → mm_H → Prop) (v1 : Int32) (v2 : Int32) (v3 : Int32) (v4 : Int32) (I : Nat → Nat → Int32) (J : Nat → Nat → Int64) : Prop := mm_w SL xs (mm_s SL xs (d + 2)) mm_am kX11_operand 0 0 (some .int) Q 62 [some (.ref 65), some (.int v1), some (.int v2), some (.int v3), some (.int v4)] [] (hp p s q I J) 0 0
def w_X11_operand_76 (SL : Nat) (xs : Nat → Int32) (d : Nat) (p s q : Nat) (Q : Option Value → mm_H → Prop) (v1 : Int32) (v2 : Int32) (v3 : Int32) (v4 : Int32) (I : Nat → Nat → Int32) (J : Nat → Nat → Int64) : Prop := mm_w SL xs (mm_s SL xs (d + 2)) mm_am kX11_operand 0 0 (some .int) Q 76 [some (.ref 65), some (.int v1), some (.int v2), some (.int v3), some (.int v4)] [] (hp p s q I J) 0 0
def w_X11_operand_89 (SL : Nat) (xs : Nat → Int32) (d : Nat) (p s q : Nat) (Q : Option Value → mm_H → Prop) (v1 : Int32) (v2 : Int32) (v3 : Int32) (v4 : Int32) (I : Nat → Nat → Int32) (J : Nat → Nat → Int64) : Prop := mm_w SL xs (mm_s SL xs (d + 2)) mm_am kX11_operand 0 0 (some .int) Q 89 [some (.ref 65), some (.int v1), some (.int v2), some (.int v3), some (.int v4)] [] (hp p s q I J) 0 0
def w_X11_operand_98 (SL : Nat) (xs : Nat → Int32) (d : Nat) (p s q : Nat) (Q : Option Value → mm_H → Prop) (v1 : Int32) (v2 : Int32) (v3 : Int32) (v4 : Int32) (I : Nat → Nat → Int32) (J : Nat → Nat → Int64) : Prop := mm_w SL xs (mm_s SL xs (d + 2)) mm_am kX11_operand 0 0 (some .int) Q 98 [some (.ref 65), some (.int v1), some (.int v2), some (.int v3), some (.int v4)] [] (hp p s q I J) 0 0
def w_X11_operand_103 (SL : Nat) (xs : Nat → Int32) (d : Nat) (p s q : Nat) (Q : Option Value → mm_H → Prop) (v1 : Int32) (v2 : Int32) (v3 : Int32) (v4 : Int32) (I : Nat → Nat → Int32) (J : Nat → Nat → Int64) : Prop := mm_w SL xs (mm_s SL xs (d + 2)) mm_am kX11_operand 0 0 (some .int) Q 103 [some (.ref 65), some (.int v1), some (.int v2), some (.int v3), some (.int v4)] [] (hp p s q I J) 0 0
def w_X11_operand_176 (SL : Nat) (xs : Nat → Int32) (d : Nat) (p s q : Nat) (Q : Option Value → mm_H → Prop) (v1 : Int32) (v2 : Int32) (v3 : Int32) (v4 : Int32) (I : Nat → Nat → Int32) (J : Nat → Nat → Int64) : Prop := mm_w SL xs (mm_s SL xs (d + 2)) mm_am kX11_operand 0 0 (some .int) Q 176 [some (.ref 65), some (.int v1), some (.int v2), some (.int v3), some (.int v4)] [] (hp p s q I J) 0 0
theorem sg_X11_operand {SL : Nat} {xs : Nat → Int32} {d : Nat} {p s q : Nat} {Q : Option Value → mm_H → Prop} {a0 : Int32} {I : Nat → Nat → Int32} {J : Nat → Nat → Int64}  (k : ((a0 = Int32.ofInt 0 → (((sy_X11_isWord (Int64.ofInt 7237492) I J) = Int32.ofInt 0 → w_X11_operand_18 SL xs d p s q Q a0 I J) ∧ (¬ ((sy_X11_isWord (Int64.ofInt 7237492) I J) = Int32.ofInt 0) → w_X11_operand_20 SL xs d p s q Q a0 (Int32.ofInt 1) I J))) ∧ (¬ (a0 = Int32.ofInt 0) → w_X11_operand_18 SL xs d p s q Q a0 I J))) : mm_s SL xs (d + 3) 187 [.ref 65, .int a0] (hp p s q I J) Q := by
  refine e_X11_operand rfl ?_
  refine sp_iload_n 1 rfl rfl rfl ?_
  refine sp_if_ne 4 rfl rfl (fun q => ?_) (fun q => ?_)
  · have k := k.2 q
    exact k
  · have k := k.1 q
    refine sp_aload_n 5 rfl rfl rfl ?_
    refine sp_ldc2 8 rfl rfl ?_
    refine sc_V 11 rfl rfl rfl rfl rfl (Nat.le_refl _) (Nat.le_refl _) rfl ?_
    refine cy_X11_isWord ?_
    refine sp_if_eq 14 rfl rfl (fun q => ?_) (fun q => ?_)
    · have k := k.1 q
      exact k
    · have k := k.2 q
      refine sp_iconst 15 rfl rfl ?_
      refine sp_goto rfl ?_
      refine sp_istore_n 20 rfl rfl rfl ?_
      exact k
theorem sg_X11_operand_18 {SL : Nat} {xs : Nat → Int32} {d : Nat} {p s q : Nat} {Q : Option Value → mm_H → Prop} {v1 : Int32} {I : Nat → Nat → Int32} {J : Nat → Nat → Int64}  (k : w_X11_operand_20 SL xs d p s q Q v1 (Int32.ofInt 0) I J) : w_X11_operand_18 SL xs d p s q Q v1 I J := by
  unfold w_X11_operand_18
  refine sp_iconst 19 rfl rfl ?_
  refine sp_istore_n 20 rfl rfl rfl ?_
  exact k
theorem sg_X11_operand_20 {SL : Nat} {xs : Nat → Int32} {d : Nat} {p s q : Nat} {Q : Option Value → mm_H → Prop} {v1 : Int32} {v2 : Int32} {I : Nat → Nat → Int32} {J : Nat → Nat → Int64}  (k : (((I 65 6) = (Int32.ofInt 2) → w_X11_operand_46 SL xs d p s q Q v1 v2 (sy_X11_known  I J) I J) ∧ (¬ ((I 65 6) = (Int32.ofInt 2)) → (((I 65 6) = (Int32.ofInt 40) → w_X11_operand_46 SL xs d p s q Q v1 v2 (sy_X11_known  I J) I J) ∧ (¬ ((I 65 6) = (Int32.ofInt 40)) → (((sy_X11_known  I J) < Int32.ofInt 0 → w_X11_operand_53 SL xs d p s q Q v1 v2 (sy_X11_known  I J) (Int32.ofInt 0) I J) ∧ (¬ ((sy_X11_known  I J) < Int32.ofInt 0) → w_X11_operand_46 SL xs d p s q Q v1 v2 (sy_X11_known  I J) I J))))))) : w_X11_operand_20 SL xs d p s q Q v1 v2 I J := by
  unfold w_X11_operand_20
  refine sp_aload_n 21 rfl rfl rfl ?_
  refine sc_V 24 rfl rfl rfl rfl rfl (Nat.le_refl _) (Nat.le_refl _) rfl ?_
  refine cy_X11_known ?_
  refine sp_istore_n 25 rfl rfl rfl ?_
  refine sp_aload_n 26 rfl rfl rfl ?_
  refine hq_getI 29 rfl rfl rfl ?_
  refine sp_iconst 30 rfl rfl ?_
  refine sp_ic_eq 33 rfl rfl (fun q => ?_) (fun q => ?_)
  · have k := k.1 q
    exact k
  · have k := k.2 q
    refine sp_aload_n 34 rfl rfl rfl ?_
    refine hq_getI 37 rfl rfl rfl ?_
    refine sp_bipush 39 rfl rfl ?_
    refine sp_I (y := Int32.ofInt 40) rfl ?_
    refine sp_ic_eq 42 rfl rfl (fun q => ?_) (fun q => ?_)
    · have k := k.1 q
      exact k
    · have k := k.2 q
      refine sp_iload_n 43 rfl rfl rfl ?_
      refine sp_if_lt 46 rfl rfl (fun q => ?_) (fun q => ?_)
      · have k := k.1 q
        refine sp_iconst 51 rfl rfl ?_
        refine sp_istore 53 rfl rfl rfl ?_
        exact k
      · have k := k.2 q
        exact k
theorem sg_X11_operand_46 {SL : Nat} {xs : Nat → Int32} {d : Nat} {p s q : Nat} {Q : Option Value → mm_H → Prop} {v1 : Int32} {v2 : Int32} {v3 : Int32} {I : Nat → Nat → Int32} {J : Nat → Nat → Int64}  (k : w_X11_operand_53 SL xs d p s q Q v1 v2 v3 (Int32.ofInt 1) I J) : w_X11_operand_46 SL xs d p s q Q v1 v2 v3 I J := by
  unfold w_X11_operand_46
  refine sp_iconst 47 rfl rfl ?_
  refine sp_goto rfl ?_
  refine sp_istore 53 rfl rfl rfl ?_
  exact k
theorem sg_X11_operand_53 {SL : Nat} {xs : Nat → Int32} {d : Nat} {p s q : Nat} {Q : Option Value → mm_H → Prop} {v1 : Int32} {v2 : Int32} {v3 : Int32} {v4 : Int32} {I : Nat → Nat → Int32} {J : Nat → Nat → Int64}  (k : ((v2 = Int32.ofInt 0 → ((v4 = Int32.ofInt 0 → w_X11_operand_98 SL xs d p s q Q v1 v2 v3 v4 I J) ∧ (¬ (v4 = Int32.ofInt 0) → w_X11_operand_62 SL xs d p s q Q v1 v2 v3 v4 I J))) ∧ (¬ (v2 = Int32.ofInt 0) → w_X11_operand_62 SL xs d p s q Q v1 v2 v3 v4 I J))) : w_X11_operand_53 SL xs d p s q Q v1 v2 v3 v4 I J := by
  unfold w_X11_operand_53
  refine sp_iload_n 54 rfl rfl rfl ?_
  refine sp_if_ne 57 rfl rfl (fun q => ?_) (fun q => ?_)
  · have k := k.2 q
    exact k
  · have k := k.1 q
    refine sp_iload 59 rfl rfl rfl ?_
    refine sp_if_eq 62 rfl rfl (fun q => ?_) (fun q => ?_)
    · have k := k.1 q
      exact k
    · have k := k.2 q
      exact k
theorem sg_X11_operand_62 {SL : Nat} {xs : Nat → Int32} {d : Nat} {p s q : Nat} {Q : Option Value → mm_H → Prop} {v1 : Int32} {v2 : Int32} {v3 : Int32} {v4 : Int32} {I : Nat → Nat → Int32} {J : Nat → Nat → Int64}  (k : ((v4 = Int32.ofInt 0 → w_X11_operand_76 SL xs d p s q Q v1 v2 v3 v4 I J) ∧ (¬ (v4 = Int32.ofInt 0) → (((I 65 19) = (Int32.ofInt 40) → w_X11_operand_98 SL xs d p s q Q v1 v2 v3 v4 I J) ∧ (¬ ((I 65 19) = (Int32.ofInt 40)) → w_X11_operand_76 SL xs d p s q Q v1 v2 v3 v4 I J))))) : w_X11_operand_62 SL xs d p s q Q v1 v2 v3 v4 I J := by
  unfold w_X11_operand_62
  refine sp_iload 64 rfl rfl rfl ?_
  refine sp_if_eq 67 rfl rfl (fun q => ?_) (fun q => ?_)
  · have k := k.1 q
    exact k
  · have k := k.2 q
    refine sp_aload_n 68 rfl rfl rfl ?_
    refine hq_getI 71 rfl rfl rfl ?_
    refine sp_bipush 73 rfl rfl ?_
    refine sp_I (y := Int32.ofInt 40) rfl ?_
    refine sp_ic_eq 76 rfl rfl (fun q => ?_) (fun q => ?_)
    · have k := k.1 q
      exact k
    · have k := k.2 q
      exact k
theorem sg_X11_operand_76 {SL : Nat} {xs : Nat → Int32} {d : Nat} {p s q : Nat} {Q : Option Value → mm_H → Prop} {v1 : Int32} {v2 : Int32} {v3 : Int32} {v4 : Int32} {I : Nat → Nat → Int32} {J : Nat → Nat → Int64}  (k : ((v2 = Int32.ofInt 0 → (((I 65 6) = (Int32.ofInt 40) → w_X11_operand_89 SL xs d p s q Q v1 v2 v3 v4 I J) ∧ (¬ ((I 65 6) = (Int32.ofInt 40)) → w_X11_operand_103 SL xs d p s q Q v1 v2 v3 v4 I J))) ∧ (¬ (v2 = Int32.ofInt 0) → w_X11_operand_89 SL xs d p s q Q v1 v2 v3 v4 I J))) : w_X11_operand_76 SL xs d p s q Q v1 v2 v3 v4 I J := by
  unfold w_X11_operand_76
  refine sp_iload_n 77 rfl rfl rfl ?_
  refine sp_if_ne 80 rfl rfl (fun q => ?_) (fun q => ?_)
  · have k := k.2 q
    exact k
  · have k := k.1 q
    refine sp_aload_n 81 rfl rfl rfl ?_
    refine hq_getI 84 rfl rfl rfl ?_
    refine sp_bipush 86 rfl rfl ?_
    refine sp_I (y := Int32.ofInt 40) rfl ?_
    refine sp_ic_ne 89 rfl rfl (fun q => ?_) (fun q => ?_)
    · have k := k.2 q
      exact k
    · have k := k.1 q
      exact k
theorem sg_X11_operand_89 {SL : Nat} {xs : Nat → Int32} {d : Nat} {p s q : Nat} {Q : Option Value → mm_H → Prop} {v1 : Int32} {v2 : Int32} {v3 : Int32} {v4 : Int32} {I : Nat → Nat → Int32} {J : Nat → Nat → Int64}  (k : (((I 65 23) < (Int32.ofInt 7) → w_X11_operand_103 SL xs d p s q Q v1 v2 v3 v4 I J) ∧ (¬ ((I 65 23) < (Int32.ofInt 7)) → w_X11_operand_98 SL xs d p s q Q v1 v2 v3 v4 I J))) : w_X11_operand_89 SL xs d p s q Q v1 v2 v3 v4 I J := by
  unfold w_X11_operand_89
  refine sp_aload_n 90 rfl rfl rfl ?_
  refine hq_getI 93 rfl rfl rfl ?_
  refine sp_bipush 95 rfl rfl ?_
  refine sp_I (y := Int32.ofInt 7) rfl ?_
  refine sp_ic_lt 98 rfl rfl (fun q => ?_) (fun q => ?_)
  · have k := k.1 q
    exact k
  · have k := k.2 q
    exact k
theorem sg_X11_operand_98 {SL : Nat} {xs : Nat → Int32} {d : Nat} {p s q : Nat} {Q : Option Value → mm_H → Prop} {v1 : Int32} {v2 : Int32} {v3 : Int32} {v4 : Int32} {I : Nat → Nat → Int32} {J : Nat → Nat → Int64}  (k : (mm_s SL xs (d + 2) 173 [.ref 65, .int (Int32.ofInt 2)] (hp p s q I J) (fun r_ h_ => ∃ I1 J1, r_ = none ∧ h_ = hp p s q I1 J1 ∧ w_X11_operand_103 SL xs d p s q Q v1 v2 v3 v4 I1 J1))) : w_X11_operand_98 SL xs d p s q Q v1 v2 v3 v4 I J := by
  unfold w_X11_operand_98
  refine sp_aload_n 99 rfl rfl rfl ?_
  refine sp_iconst 100 rfl rfl ?_
  refine sc_V 103 rfl rfl rfl rfl rfl (Nat.le_refl _) (Nat.le_refl _) rfl ?_
  refine mm_s_mono _ _ _ _ _ _ ?_ k
  rintro r_ h_ ⟨I1, J1, rfl, rfl, k⟩
  exact k
theorem sg_X11_operand_103 {SL : Nat} {xs : Nat → Int32} {d : Nat} {p s q : Nat} {Q : Option Value → mm_H → Prop} {v1 : Int32} {v2 : Int32} {v3 : Int32} {v4 : Int32} {I : Nat → Nat → Int32} {J : Nat → Nat → Int64}  (k : (((I 65 2) ≤ Int32.ofInt 0 → ((v2 = Int32.ofInt 0 → (((I 65 6) = (Int32.ofInt 40) → (mm_s SL xs (d + 2) 181 [.ref 65, .int (Int32.ofInt 40)] (hp p s q (mm_u I 65 19 ((I 65 19) + (Int32.ofInt 1))) J) (fun r_ h_ => ∃ I3 J3, r_ = none ∧ h_ = hp p s q I3 J3 ∧ (mm_s SL xs (d + 2) 172 [.ref 65] (hp p s q I3 J3) (fun r_ h_ => ∃ I4 J4, r_ = none ∧ h_ = hp p s q I4 J4 ∧ Q (some (.int (Int32.ofInt 0))) (hp p s q I4 J4)))))) ∧ (¬ ((I 65 6) = (Int32.ofInt 40)) → ((Int32.ofInt 0 ≤ v3 → (mm_s SL xs (d + 2) 179 [.ref 65, .int v3, .int (I 65 8)] (hp p s q (mm_u I 65 19 ((I 65 19) + (Int32.ofInt 1))) J) (fun r_ h_ => ∃ I1 J1, r_ = none ∧ h_ = hp p s q I1 J1 ∧ w_X11_operand_176 SL xs d p s q Q v1 v2 v3 v4 I1 J1))) ∧ (¬ (Int32.ofInt 0 ≤ v3) → (mm_s SL xs (d + 2) 179 [.ref 65, .int (Int32.ofInt 0), .int (I 65 8)] (hp p s q (mm_u I 65 19 ((I 65 19) + (Int32.ofInt 1))) J) (fun r_ h_ => ∃ I2 J2, r_ = none ∧ h_ = hp p s q I2 J2 ∧ w_X11_operand_176 SL xs d p s q Q v1 v2 v3 v4 I2 J2))))))) ∧ (¬ (v2 = Int32.ofInt 0) → (mm_s SL xs (d + 2) 181 [.ref 65, .int (Int32.ofInt 22)] (hp p s q I J) (fun r_ h_ => ∃ I5 J5, r_ = none ∧ h_ = hp p s q I5 J5 ∧ (mm_s SL xs (d + 2) 172 [.ref 65] (hp p s q I5 J5) (fun r_ h_ => ∃ I6 J6, r_ = none ∧ h_ = hp p s q I6 J6 ∧ Q (some (.int (Int32.ofInt 0))) (hp p s q I6 J6)))))))) ∧ (¬ ((I 65 2) ≤ Int32.ofInt 0) → Q (some (.int v1)) (hp p s q I J)))) : w_X11_operand_103 SL xs d p s q Q v1 v2 v3 v4 I J := by
  unfold w_X11_operand_103
  refine sp_aload_n 104 rfl rfl rfl ?_
  refine hq_getI 107 rfl rfl rfl ?_
  refine sp_if_le 110 rfl rfl (fun q => ?_) (fun q => ?_)
  · have k := k.1 q
    refine sp_iload_n 113 rfl rfl rfl ?_
    refine sp_if_eq 116 rfl rfl (fun q => ?_) (fun q => ?_)
    · have k := k.1 q
      refine sp_aload_n 129 rfl rfl rfl ?_
      refine sp_dup 130 rfl rfl rfl ?_
      refine hq_getI 133 rfl rfl rfl ?_
      refine sp_iconst 134 rfl rfl ?_
      refine sp_iadd 135 rfl rfl ?_
      refine hq_putI 138 rfl rfl rfl ?_
      refine sp_aload_n 139 rfl rfl rfl ?_
      refine hq_getI 142 rfl rfl rfl ?_
      refine sp_I (y := (I 65 6)) (by simp [mm_u]) ?_
      refine sp_bipush 144 rfl rfl ?_
      refine sp_I (y := Int32.ofInt 40) rfl ?_
      refine sp_ic_ne 147 rfl rfl (fun q => ?_) (fun q => ?_)
      · have k := k.2 q
        refine sp_aload_n 160 rfl rfl rfl ?_
        refine sp_iload_n 161 rfl rfl rfl ?_
        refine sp_if_ge 164 rfl rfl (fun q => ?_) (fun q => ?_)
        · have k := k.1 q
          refine sp_iload_n 169 rfl rfl rfl ?_
          refine sp_aload_n 170 rfl rfl rfl ?_
          refine hq_getI 173 rfl rfl rfl ?_
          refine sp_I (y := (I 65 8)) (by simp [mm_u]) ?_
          refine sc_V 176 rfl rfl rfl rfl rfl (Nat.le_refl _) (Nat.le_refl _) rfl ?_
          refine mm_s_mono _ _ _ _ _ _ ?_ k
          rintro r_ h_ ⟨I1, J1, rfl, rfl, k⟩
          exact k
        · have k := k.2 q
          refine sp_iconst 165 rfl rfl ?_
          refine sp_goto rfl ?_
          refine sp_aload_n 170 rfl rfl rfl ?_
          refine hq_getI 173 rfl rfl rfl ?_
          refine sp_I (y := (I 65 8)) (by simp [mm_u]) ?_
          refine sc_V 176 rfl rfl rfl rfl rfl (Nat.le_refl _) (Nat.le_refl _) rfl ?_
          refine mm_s_mono _ _ _ _ _ _ ?_ k
          rintro r_ h_ ⟨I2, J2, rfl, rfl, k⟩
          exact k
      · have k := k.1 q
        refine sp_aload_n 148 rfl rfl rfl ?_
        refine sp_bipush 150 rfl rfl ?_
        refine sp_I (y := Int32.ofInt 40) rfl ?_
        refine sc_V 153 rfl rfl rfl rfl rfl (Nat.le_refl _) (Nat.le_refl _) rfl ?_
        refine mm_s_mono _ _ _ _ _ _ ?_ k
        rintro r_ h_ ⟨I3, J3, rfl, rfl, k⟩
        refine sp_aload_n 154 rfl rfl rfl ?_
        refine sc_V 157 rfl rfl rfl rfl rfl (Nat.le_refl _) (Nat.le_refl _) rfl ?_
        refine mm_s_mono _ _ _ _ _ _ ?_ k
        rintro r_ h_ ⟨I4, J4, rfl, rfl, k⟩
        refine sp_iconst 158 rfl rfl ?_
        exact st_iret rfl rfl (Nat.le_refl _) (Nat.le_refl _) k
    · have k := k.2 q
      refine sp_aload_n 117 rfl rfl rfl ?_
      refine sp_bipush 119 rfl rfl ?_
      refine sp_I (y := Int32.ofInt 22) rfl ?_
      refine sc_V 122 rfl rfl rfl rfl rfl (Nat.le_refl _) (Nat.le_refl _) rfl ?_
      refine mm_s_mono _ _ _ _ _ _ ?_ k
      rintro r_ h_ ⟨I5, J5, rfl, rfl, k⟩
      refine sp_aload_n 123 rfl rfl rfl ?_
      refine sc_V 126 rfl rfl rfl rfl rfl (Nat.le_refl _) (Nat.le_refl _) rfl ?_
      refine mm_s_mono _ _ _ _ _ _ ?_ k
      rintro r_ h_ ⟨I6, J6, rfl, rfl, k⟩
      refine sp_iconst 127 rfl rfl ?_
      exact st_iret rfl rfl (Nat.le_refl _) (Nat.le_refl _) k
  · have k := k.2 q
    refine sp_iload_n 111 rfl rfl rfl ?_
    exact st_iret rfl rfl (Nat.le_refl _) (Nat.le_refl _) k
theorem sg_X11_operand_176 {SL : Nat} {xs : Nat → Int32} {d : Nat} {p s q : Nat} {Q : Option Value → mm_H → Prop} {v1 : Int32} {v2 : Int32} {v3 : Int32} {v4 : Int32} {I : Nat → Nat → Int32} {J : Nat → Nat → Int64}  (k : (mm_s SL xs (d + 2) 172 [.ref 65] (hp p s q I J) (fun r_ h_ => ∃ I1 J1, r_ = none ∧ h_ = hp p s q I1 J1 ∧ Q (some (.int (Int32.ofInt 2))) (hp p s q I1 J1)))) : w_X11_operand_176 SL xs d p s q Q v1 v2 v3 v4 I J := by
  unfold w_X11_operand_176
  refine sp_aload_n 177 rfl rfl rfl ?_
  refine sc_V 180 rfl rfl rfl rfl rfl (Nat.le_refl _) (Nat.le_refl _) rfl ?_
  refine mm_s_mono _ _ _ _ _ _ ?_ k
  rintro r_ h_ ⟨I1, J1, rfl, rfl, k⟩
  refine sp_iconst 181 rfl rfl ?_
  exact st_iret rfl rfl (Nat.le_refl _) (Nat.le_refl _) k
def w_X11_readRhyme_24 (SL : Nat) (xs : Nat → Int32) (d : Nat) (p s q : Nat) (Q : Option Value → mm_H → Prop)  (I : Nat → Nat → Int32) (J : Nat → Nat → Int64) : Prop := mm_w SL xs (mm_s SL xs (d + 2)) mm_am kX11_readRhyme 0 0 none Q 24 [some (.ref 65)] [] (hp p s q I J) 0 0
theorem sg_X11_readRhyme {SL : Nat} {xs : Nat → Int32} {d : Nat} {p s q : Nat} {Q : Option Value → mm_H → Prop}  {I : Nat → Nat → Int32} {J : Nat → Nat → Int64}  (k : (mm_s SL xs (d + 2) 172 [.ref 65] (hp p s q I J) (fun r_ h_ => ∃ I1 J1, r_ = none ∧ h_ = hp p s q I1 J1 ∧ (vp_in (Int32.ofInt 7) 8 ∧ (mm_s SL xs (d + 2) 175 [.ref 65] (hp p s q (mm_u I1 85 (((Int32.ofInt 7)).toNatClampNeg) (Int32.ofInt 1)) J1) (fun r_ h_ => ∃ x2 I2 J2, r_ = some (.int x2) ∧ h_ = hp p s q I2 J2 ∧ ((x2 = Int32.ofInt 0 → (mm_s SL xs (d + 2) 173 [.ref 65, .int (Int32.ofInt 2)] (hp p s q I2 J2) (fun r_ h_ => ∃ I3 J3, r_ = none ∧ h_ = hp p s q I3 J3 ∧ w_X11_readRhyme_24 SL xs d p s q Q  I3 J3))) ∧ (¬ (x2 = Int32.ofInt 0) → w_X11_readRhyme_24 SL xs d p s q Q  I2 J2)))))))) : mm_s SL xs (d + 3) 193 [.ref 65] (hp p s q I J) Q := by
  refine e_X11_readRhyme rfl ?_
  refine sp_aload_n 1 rfl rfl rfl ?_
  refine sc_V 4 rfl rfl rfl rfl rfl (Nat.le_refl _) (Nat.le_refl _) rfl ?_
  refine mm_s_mono _ _ _ _ _ _ ?_ k
  rintro r_ h_ ⟨I1, J1, rfl, rfl, k⟩
  refine sp_aload_n 5 rfl rfl rfl ?_
  refine hq_getR 8 rfl rfl rfl rfl ?_
  refine sp_bipush 10 rfl rfl ?_
  refine sp_I (y := Int32.ofInt 7) rfl ?_
  refine sp_iconst 11 rfl rfl ?_
  have n1_ := k.1
  have k := k.2
  refine hq_zast 12 rfl rfl n1_ (by decide) rfl ?_
  refine sp_aload_n 13 rfl rfl rfl ?_
  refine sc_V 16 rfl rfl rfl rfl rfl (Nat.le_refl _) (Nat.le_refl _) rfl ?_
  refine mm_s_mono _ _ _ _ _ _ ?_ k
  rintro r_ h_ ⟨x2, I2, J2, rfl, rfl, k⟩
  refine sp_if_ne 19 rfl rfl (fun q => ?_) (fun q => ?_)
  · have k := k.2 q
    exact k
  · have k := k.1 q
    refine sp_aload_n 20 rfl rfl rfl ?_
    refine sp_iconst 21 rfl rfl ?_
    refine sc_V 24 rfl rfl rfl rfl rfl (Nat.le_refl _) (Nat.le_refl _) rfl ?_
    refine mm_s_mono _ _ _ _ _ _ ?_ k
    rintro r_ h_ ⟨I3, J3, rfl, rfl, k⟩
    exact k
theorem sg_X11_readRhyme_24 {SL : Nat} {xs : Nat → Int32} {d : Nat} {p s q : Nat} {Q : Option Value → mm_H → Prop}  {I : Nat → Nat → Int32} {J : Nat → Nat → Int64}  (k : (((I 65 2) = Int32.ofInt 0 → (mm_s SL xs (d + 2) 175 [.ref 65] (hp p s q I J) (fun r_ h_ => ∃ x1 I1 J1, r_ = some (.int x1) ∧ h_ = hp p s q I1 J1 ∧ ((x1 = Int32.ofInt 0 → Q none (hp p s q I1 J1)) ∧ (¬ (x1 = Int32.ofInt 0) → (((I1 65 40) = (Int32.ofInt 24) → (mm_s SL xs (d + 2) 173 [.ref 65, .int (Int32.ofInt 2)] (hp p s q I1 J1) (fun r_ h_ => ∃ I3 J3, r_ = none ∧ h_ = hp p s q I3 J3 ∧ (((I3 65 2) ≤ Int32.ofInt 0 → (mm_s SL xs (d + 2) 172 [.ref 65] (hp p s q (mm_u (mm_u I3 65 40 ((I3 65 40) + (Int32.ofInt 1))) 65 41 ((I3 65 41) + (I3 65 10))) J3) (fun r_ h_ => ∃ I4 J4, r_ = none ∧ h_ = hp p s q I4 J4 ∧ w_X11_readRhyme_24 SL xs d p s q Q  I4 J4))) ∧ (¬ ((I3 65 2) ≤ Int32.ofInt 0) → Q none (hp p s q I3 J3)))))) ∧ (¬ ((I1 65 40) = (Int32.ofInt 24)) → (((I1 65 2) ≤ Int32.ofInt 0 → (mm_s SL xs (d + 2) 172 [.ref 65] (hp p s q (mm_u (mm_u I1 65 40 ((I1 65 40) + (Int32.ofInt 1))) 65 41 ((I1 65 41) + (I1 65 10))) J1) (fun r_ h_ => ∃ I2 J2, r_ = none ∧ h_ = hp p s q I2 J2 ∧ w_X11_readRhyme_24 SL xs d p s q Q  I2 J2))) ∧ (¬ ((I1 65 2) ≤ Int32.ofInt 0) → Q none (hp p s q I1 J1)))))))))) ∧ (¬ ((I 65 2) = Int32.ofInt 0) → Q none (hp p s q I J)))) : w_X11_readRhyme_24 SL xs d p s q Q  I J := by
  unfold w_X11_readRhyme_24
  refine sp_aload_n 25 rfl rfl rfl ?_
  refine hq_getI 28 rfl rfl rfl ?_
  refine sp_if_ne 31 rfl rfl (fun q => ?_) (fun q => ?_)
  · have k := k.2 q
    exact st_vret rfl rfl (Nat.le_refl _) (Nat.le_refl _) k
  · have k := k.1 q
    refine sp_aload_n 32 rfl rfl rfl ?_
    refine sc_V 35 rfl rfl rfl rfl rfl (Nat.le_refl _) (Nat.le_refl _) rfl ?_
    refine mm_s_mono _ _ _ _ _ _ ?_ k
    rintro r_ h_ ⟨x1, I1, J1, rfl, rfl, k⟩
    refine sp_if_eq 38 rfl rfl (fun q => ?_) (fun q => ?_)
    · have k := k.1 q
      exact st_vret rfl rfl (Nat.le_refl _) (Nat.le_refl _) k
    · have k := k.2 q
      refine sp_aload_n 39 rfl rfl rfl ?_
      refine hq_getI 42 rfl rfl rfl ?_
      refine sp_bipush 44 rfl rfl ?_
      refine sp_I (y := Int32.ofInt 24) rfl ?_
      refine sp_ic_ne 47 rfl rfl (fun q => ?_) (fun q => ?_)
      · have k := k.2 q
        refine sp_aload_n 53 rfl rfl rfl ?_
        refine hq_getI 56 rfl rfl rfl ?_
        refine sp_if_le 59 rfl rfl (fun q => ?_) (fun q => ?_)
        · have k := k.1 q
          refine sp_aload_n 61 rfl rfl rfl ?_
          refine sp_dup 62 rfl rfl rfl ?_
          refine hq_getI 65 rfl rfl rfl ?_
          refine sp_iconst 66 rfl rfl ?_
          refine sp_iadd 67 rfl rfl ?_
          refine hq_putI 70 rfl rfl rfl ?_
          refine sp_aload_n 71 rfl rfl rfl ?_
          refine sp_dup 72 rfl rfl rfl ?_
          refine hq_getI 75 rfl rfl rfl ?_
          refine sp_I (y := (I1 65 41)) (by simp [mm_u]) ?_
          refine sp_aload_n 76 rfl rfl rfl ?_
          refine hq_getI 79 rfl rfl rfl ?_
          refine sp_I (y := (I1 65 10)) (by simp [mm_u]) ?_
          refine sp_iadd 80 rfl rfl ?_
          refine hq_putI 83 rfl rfl rfl ?_
          refine sp_aload_n 84 rfl rfl rfl ?_
          refine sc_V 87 rfl rfl rfl rfl rfl (Nat.le_refl _) (Nat.le_refl _) rfl ?_
          refine mm_s_mono _ _ _ _ _ _ ?_ k
          rintro r_ h_ ⟨I2, J2, rfl, rfl, k⟩
          refine sp_goto rfl ?_
          exact k
        · have k := k.2 q
          exact st_vret rfl rfl (Nat.le_refl _) (Nat.le_refl _) k
      · have k := k.1 q
        refine sp_aload_n 48 rfl rfl rfl ?_
        refine sp_iconst 49 rfl rfl ?_
        refine sc_V 52 rfl rfl rfl rfl rfl (Nat.le_refl _) (Nat.le_refl _) rfl ?_
        refine mm_s_mono _ _ _ _ _ _ ?_ k
        rintro r_ h_ ⟨I3, J3, rfl, rfl, k⟩
        refine sp_aload_n 53 rfl rfl rfl ?_
        refine hq_getI 56 rfl rfl rfl ?_
        refine sp_if_le 59 rfl rfl (fun q => ?_) (fun q => ?_)
        · have k := k.1 q
          refine sp_aload_n 61 rfl rfl rfl ?_
          refine sp_dup 62 rfl rfl rfl ?_
          refine hq_getI 65 rfl rfl rfl ?_
          refine sp_iconst 66 rfl rfl ?_
          refine sp_iadd 67 rfl rfl ?_
          refine hq_putI 70 rfl rfl rfl ?_
          refine sp_aload_n 71 rfl rfl rfl ?_
          refine sp_dup 72 rfl rfl rfl ?_
          refine hq_getI 75 rfl rfl rfl ?_
          refine sp_I (y := (I3 65 41)) (by simp [mm_u]) ?_
          refine sp_aload_n 76 rfl rfl rfl ?_
          refine hq_getI 79 rfl rfl rfl ?_
          refine sp_I (y := (I3 65 10)) (by simp [mm_u]) ?_
          refine sp_iadd 80 rfl rfl ?_
          refine hq_putI 83 rfl rfl rfl ?_
          refine sp_aload_n 84 rfl rfl rfl ?_
          refine sc_V 87 rfl rfl rfl rfl rfl (Nat.le_refl _) (Nat.le_refl _) rfl ?_
          refine mm_s_mono _ _ _ _ _ _ ?_ k
          rintro r_ h_ ⟨I4, J4, rfl, rfl, k⟩
          refine sp_goto rfl ?_
          exact k
        · have k := k.2 q
          exact st_vret rfl rfl (Nat.le_refl _) (Nat.le_refl _) k
def w_X11_going_30 (SL : Nat) (xs : Nat → Int32) (d : Nat) (p s q : Nat) (Q : Option Value → mm_H → Prop)  (I : Nat → Nat → Int32) (J : Nat → Nat → Int64) : Prop := mm_w SL xs (mm_s SL xs (d + 2)) mm_am kX11_going 0 0 none Q 30 [some (.ref 65), none, none, none, none, none, none] [] (hp p s q I J) 0 0
def w_X11_going_32 (SL : Nat) (xs : Nat → Int32) (d : Nat) (p s q : Nat) (Q : Option Value → mm_H → Prop) (v1 : Int32) (I : Nat → Nat → Int32) (J : Nat → Nat → Int64) : Prop := mm_w SL xs (mm_s SL xs (d + 2)) mm_am kX11_going 0 0 none Q 32 [some (.ref 65), some (.int v1), none, none, none, none, none] [] (hp p s q I J) 0 0
def w_X11_going_51 (SL : Nat) (xs : Nat → Int32) (d : Nat) (p s q : Nat) (Q : Option Value → mm_H → Prop) (v1 : Int32) (v2 : Int32) (I : Nat → Nat → Int32) (J : Nat → Nat → Int64) : Prop := mm_w SL xs (mm_s SL xs (d + 2)) mm_am kX11_going 0 0 none Q 51 [some (.ref 65), some (.int v1), some (.int v2), none, none, none, none] [] (hp p s q I J) 0 0
def w_X11_going_78 (SL : Nat) (xs : Nat → Int32) (d : Nat) (p s q : Nat) (Q : Option Value → mm_H → Prop) (v1 : Int32) (v2 : Int32) (v3 : Int32) (I : Nat → Nat → Int32) (J : Nat → Nat → Int64) : Prop := mm_w SL xs (mm_s SL xs (d + 2)) mm_am kX11_going 0 0 none Q 78 [some (.ref 65), some (.int v1), some (.int v2), some (.int v3), none, none, none] [] (hp p s q I J) 0 0
def w_X11_going_94 (SL : Nat) (xs : Nat → Int32) (d : Nat) (p s q : Nat) (Q : Option Value → mm_H → Prop) (v1 : Int32) (v2 : Int32) (v3 : Int32) (v4 : Int32) (I : Nat → Nat → Int32) (J : Nat → Nat → Int64) : Prop := mm_w SL xs (mm_s SL xs (d + 2)) mm_am kX11_going 0 0 none Q 94 [some (.ref 65), some (.int v1), some (.int v2), some (.int v3), some (.int v4), none, none] [] (hp p s q I J) 0 0
def w_X11_going_137 (SL : Nat) (xs : Nat → Int32) (d : Nat) (p s q : Nat) (Q : Option Value → mm_H → Prop) (v1 : Int32) (v2 : Int32) (v3 : Int32) (v4 : Int32) (v5 : Int32) (I : Nat → Nat → Int32) (J : Nat → Nat → Int64) : Prop := mm_w SL xs (mm_s SL xs (d + 2)) mm_am kX11_going 0 0 none Q 137 [some (.ref 65), some (.int v1), some (.int v2), some (.int v3), some (.int v4), some (.int v5), none] [] (hp p s q I J) 0 0
def w_X11_going_149 (SL : Nat) (xs : Nat → Int32) (d : Nat) (p s q : Nat) (Q : Option Value → mm_H → Prop) (v1 : Int32) (v2 : Int32) (v3 : Int32) (v4 : Int32) (v5 : Int32) (v6 : Int32) (I : Nat → Nat → Int32) (J : Nat → Nat → Int64) : Prop := mm_w SL xs (mm_s SL xs (d + 2)) mm_am kX11_going 0 0 none Q 149 [some (.ref 65), some (.int v1), some (.int v2), some (.int v3), some (.int v4), some (.int v5), some (.int v6)] [] (hp p s q I J) 0 0
def w_X11_going_162 (SL : Nat) (xs : Nat → Int32) (d : Nat) (p s q : Nat) (Q : Option Value → mm_H → Prop) (v1 : Int32) (v2 : Int32) (v3 : Int32) (v4 : Int32) (v5 : Int32) (v6 : Int32) (I : Nat → Nat → Int32) (J : Nat → Nat → Int64) : Prop := mm_w SL xs (mm_s SL xs (d + 2)) mm_am kX11_going 0 0 none Q 162 [some (.ref 65), some (.int v1), some (.int v2), some (.int v3), some (.int v4), some (.int v5), some (.int v6)] [] (hp p s q I J) 0 0
def w_X11_going_243 (SL : Nat) (xs : Nat → Int32) (d : Nat) (p s q : Nat) (Q : Option Value → mm_H → Prop) (v1 : Int32) (v2 : Int32) (v3 : Int32) (v4 : Int32) (v5 : Int32) (v6 : Int32) (I : Nat → Nat → Int32) (J : Nat → Nat → Int64) : Prop := mm_w SL xs (mm_s SL xs (d + 2)) mm_am kX11_going 0 0 none Q 243 [some (.ref 65), some (.int v1), some (.int v2), some (.int v3), some (.int v4), some (.int v5), some (.int v6)] [] (hp p s q I J) 0 0
theorem sg_X11_going {SL : Nat} {xs : Nat → Int32} {d : Nat} {p s q : Nat} {Q : Option Value → mm_H → Prop}  {I : Nat → Nat → Int32} {J : Nat → Nat → Int64}  (k : (((I 65 52) < Int32.ofInt 0 → w_X11_going_30 SL xs d p s q Q  (mm_u I 65 60 ((I 65 60) + (Int32.ofInt 1))) J) ∧ (¬ ((I 65 52) < Int32.ofInt 0) → (((((I 65 60) + (Int32.ofInt 1)) - ((I 65 60) + (Int32.ofInt 1)) / (Int32.ofInt 2) * (Int32.ofInt 2)) = Int32.ofInt 0 → w_X11_going_32 SL xs d p s q Q (Int32.ofInt 1) (mm_u I 65 60 ((I 65 60) + (Int32.ofInt 1))) J) ∧ (¬ ((((I 65 60) + (Int32.ofInt 1)) - ((I 65 60) + (Int32.ofInt 1)) / (Int32.ofInt 2) * (Int32.ofInt 2)) = Int32.ofInt 0) → w_X11_going_30 SL xs d p s q Q  (mm_u I 65 60 ((I 65 60) + (Int32.ofInt 1))) J))))) : mm_s SL xs (d + 3) 209 [.ref 65] (hp p s q I J) Q := by
  refine e_X11_going rfl ?_
  refine sp_aload_n 1 rfl rfl rfl ?_
  refine sp_dup 2 rfl rfl rfl ?_
  refine hq_getI 5 rfl rfl rfl ?_
  refine sp_iconst 6 rfl rfl ?_
  refine sp_iadd 7 rfl rfl ?_
  refine hq_putI 10 rfl rfl rfl ?_
  refine sp_aload_n 11 rfl rfl rfl ?_
  refine hq_getI 14 rfl rfl rfl ?_
  refine sp_I (y := (I 65 52)) (by simp [mm_u]) ?_
  refine sp_if_lt 17 rfl rfl (fun q => ?_) (fun q => ?_)
  · have k := k.1 q
    exact k
  · have k := k.2 q
    refine sp_aload_n 18 rfl rfl rfl ?_
    refine hq_getI 21 rfl rfl rfl ?_
    refine sp_I (y := ((I 65 60) + (Int32.ofInt 1))) (by simp [mm_u]) ?_
    refine sp_iconst 22 rfl rfl ?_
    refine sp_irem 23 rfl (by decide) rfl ?_
    refine sp_if_ne 26 rfl rfl (fun q => ?_) (fun q => ?_)
    · have k := k.2 q
      exact k
    · have k := k.1 q
      refine sp_iconst 27 rfl rfl ?_
      refine sp_goto rfl ?_
      refine sp_istore_n 32 rfl rfl rfl ?_
      exact k
theorem sg_X11_going_30 {SL : Nat} {xs : Nat → Int32} {d : Nat} {p s q : Nat} {Q : Option Value → mm_H → Prop}  {I : Nat → Nat → Int32} {J : Nat → Nat → Int64}  (k : w_X11_going_32 SL xs d p s q Q (Int32.ofInt 0) I J) : w_X11_going_30 SL xs d p s q Q  I J := by
  unfold w_X11_going_30
  refine sp_iconst 31 rfl rfl ?_
  refine sp_istore_n 32 rfl rfl rfl ?_
  exact k
theorem sg_X11_going_32 {SL : Nat} {xs : Nat → Int32} {d : Nat} {p s q : Nat} {Q : Option Value → mm_H → Prop} {v1 : Int32} {I : Nat → Nat → Int32} {J : Nat → Nat → Int64}  (k : (mm_s SL xs (d + 2) 206 [.ref 65] (hp p s q I J) (fun r_ h_ => ∃ x1 I1 J1, r_ = some (.int x1) ∧ h_ = hp p s q I1 J1 ∧ (((I1 65 60) = (I1 65 77) → w_X11_going_51 SL xs d p s q Q v1 (x1 + Int32.ofInt 1) I1 J1) ∧ (¬ ((I1 65 60) = (I1 65 77)) → w_X11_going_51 SL xs d p s q Q v1 x1 I1 J1))))) : w_X11_going_32 SL xs d p s q Q v1 I J := by
  unfold w_X11_going_32
  refine sp_aload_n 33 rfl rfl rfl ?_
  refine sc_V 36 rfl rfl rfl rfl rfl (Nat.le_refl _) (Nat.le_refl _) rfl ?_
  refine mm_s_mono _ _ _ _ _ _ ?_ k
  rintro r_ h_ ⟨x1, I1, J1, rfl, rfl, k⟩
  refine sp_istore_n 37 rfl rfl rfl ?_
  refine sp_aload_n 38 rfl rfl rfl ?_
  refine hq_getI 41 rfl rfl rfl ?_
  refine sp_aload_n 42 rfl rfl rfl ?_
  refine hq_getI 45 rfl rfl rfl ?_
  refine sp_ic_ne 48 rfl rfl (fun q => ?_) (fun q => ?_)
  · have k := k.2 q
    exact k
  · have k := k.1 q
    refine sp_iinc 51 rfl rfl rfl rfl ?_
    exact k
theorem sg_X11_going_51 {SL : Nat} {xs : Nat → Int32} {d : Nat} {p s q : Nat} {Q : Option Value → mm_H → Prop} {v1 : Int32} {v2 : Int32} {I : Nat → Nat → Int32} {J : Nat → Nat → Int64}  (k : ((v1 = Int32.ofInt 0 → (((Int32.ofInt 1) = (I 65 64) → w_X11_going_78 SL xs d p s q Q v1 v2 (Int32.ofInt 0) (mm_u I 65 62 v2) J) ∧ (¬ ((Int32.ofInt 1) = (I 65 64)) → w_X11_going_78 SL xs d p s q Q v1 v2 (Int32.ofInt 1) (mm_u I 65 62 v2) J))) ∧ (¬ (v1 = Int32.ofInt 0) → (((Int32.ofInt 0) = (I 65 64) → w_X11_going_78 SL xs d p s q Q v1 v2 (Int32.ofInt 0) (mm_u I 65 62 v2) J) ∧ (¬ ((Int32.ofInt 0) = (I 65 64)) → w_X11_going_78 SL xs d p s q Q v1 v2 (Int32.ofInt 1) (mm_u I 65 62 v2) J))))) : w_X11_going_51 SL xs d p s q Q v1 v2 I J := by
  unfold w_X11_going_51
  refine sp_aload_n 52 rfl rfl rfl ?_
  refine sp_iload_n 53 rfl rfl rfl ?_
  refine hq_putI 56 rfl rfl rfl ?_
  refine sp_iload_n 57 rfl rfl rfl ?_
  refine sp_if_ne 60 rfl rfl (fun q => ?_) (fun q => ?_)
  · have k := k.2 q
    refine sp_iconst 65 rfl rfl ?_
    refine sp_aload_n 66 rfl rfl rfl ?_
    refine hq_getI 69 rfl rfl rfl ?_
    refine sp_I (y := (I 65 64)) (by simp [mm_u]) ?_
    refine sp_ic_eq 72 rfl rfl (fun q => ?_) (fun q => ?_)
    · have k := k.1 q
      refine sp_iconst 77 rfl rfl ?_
      refine sp_istore_n 78 rfl rfl rfl ?_
      exact k
    · have k := k.2 q
      refine sp_iconst 73 rfl rfl ?_
      refine sp_goto rfl ?_
      refine sp_istore_n 78 rfl rfl rfl ?_
      exact k
  · have k := k.1 q
    refine sp_iconst 61 rfl rfl ?_
    refine sp_goto rfl ?_
    refine sp_aload_n 66 rfl rfl rfl ?_
    refine hq_getI 69 rfl rfl rfl ?_
    refine sp_I (y := (I 65 64)) (by simp [mm_u]) ?_
    refine sp_ic_eq 72 rfl rfl (fun q => ?_) (fun q => ?_)
    · have k := k.1 q
      refine sp_iconst 77 rfl rfl ?_
      refine sp_istore_n 78 rfl rfl rfl ?_
      exact k
    · have k := k.2 q
      refine sp_iconst 73 rfl rfl ?_
      refine sp_goto rfl ?_
      refine sp_istore_n 78 rfl rfl rfl ?_
      exact k
theorem sg_X11_going_78 {SL : Nat} {xs : Nat → Int32} {d : Nat} {p s q : Nat} {Q : Option Value → mm_H → Prop} {v1 : Int32} {v2 : Int32} {v3 : Int32} {I : Nat → Nat → Int32} {J : Nat → Nat → Int64}  (k : ((v3 = Int32.ofInt 0 → w_X11_going_94 SL xs d p s q Q v1 v2 v3 ((I 65 47) - (Int32.ofInt 1)) I J) ∧ (¬ (v3 = Int32.ofInt 0) → w_X11_going_94 SL xs d p s q Q v1 v2 v3 (Int32.ofInt 1) I J))) : w_X11_going_78 SL xs d p s q Q v1 v2 v3 I J := by
  unfold w_X11_going_78
  refine sp_iload_n 79 rfl rfl rfl ?_
  refine sp_if_eq 82 rfl rfl (fun q => ?_) (fun q => ?_)
  · have k := k.1 q
    refine sp_aload_n 87 rfl rfl rfl ?_
    refine hq_getI 90 rfl rfl rfl ?_
    refine sp_iconst 91 rfl rfl ?_
    refine sp_isub 92 rfl rfl ?_
    refine sp_istore 94 rfl rfl rfl ?_
    exact k
  · have k := k.2 q
    refine sp_iconst 83 rfl rfl ?_
    refine sp_goto rfl ?_
    refine sp_istore 94 rfl rfl rfl ?_
    exact k
theorem sg_X11_going_94 {SL : Nat} {xs : Nat → Int32} {d : Nat} {p s q : Nat} {Q : Option Value → mm_H → Prop} {v1 : Int32} {v2 : Int32} {v3 : Int32} {v4 : Int32} {I : Nat → Nat → Int32} {J : Nat → Nat → Int64}  (k : (vp_in v1 2 ∧ ((Int32.ofInt 0 ≤ (I 90 ((v1).toNatClampNeg)) → (¬ (I 65 47) = 0 ∧ w_X11_going_137 SL xs d p s q Q v1 v2 v3 v4 (((I 90 ((v1).toNatClampNeg)) + v4) - ((I 90 ((v1).toNatClampNeg)) + v4) / (I 65 47) * (I 65 47)) I J)) ∧ (¬ (Int32.ofInt 0 ≤ (I 90 ((v1).toNatClampNeg))) → ((v1 = Int32.ofInt 0 → w_X11_going_137 SL xs d p s q Q v1 v2 v3 v4 (I 65 63) I J) ∧ (¬ (v1 = Int32.ofInt 0) → w_X11_going_137 SL xs d p s q Q v1 v2 v3 v4 (I 65 52) I J)))))) : w_X11_going_94 SL xs d p s q Q v1 v2 v3 v4 I J := by
  unfold w_X11_going_94
  refine sp_aload_n 95 rfl rfl rfl ?_
  refine hq_getR 98 rfl rfl rfl rfl ?_
  refine sp_iload_n 99 rfl rfl rfl ?_
  have n1_ := k.1
  have k := k.2
  refine hq_iald 100 rfl rfl n1_ rfl ?_
  refine sp_if_ge 103 rfl rfl (fun q => ?_) (fun q => ?_)
  · have k := k.1 q
    refine sp_aload_n 122 rfl rfl rfl ?_
    refine hq_getR 125 rfl rfl rfl rfl ?_
    refine sp_iload_n 126 rfl rfl rfl ?_
    refine hq_iald 127 rfl rfl n1_ rfl ?_
    refine sp_iload 129 rfl rfl rfl ?_
    refine sp_iadd 130 rfl rfl ?_
    refine sp_aload_n 131 rfl rfl rfl ?_
    refine hq_getI 134 rfl rfl rfl ?_
    have n2_ := k.1
    have k := k.2
    refine sp_irem 135 rfl n2_ rfl ?_
    refine sp_istore 137 rfl rfl rfl ?_
    exact k
  · have k := k.2 q
    refine sp_iload_n 104 rfl rfl rfl ?_
    refine sp_if_ne 107 rfl rfl (fun q => ?_) (fun q => ?_)
    · have k := k.2 q
      refine sp_aload_n 115 rfl rfl rfl ?_
      refine hq_getI 118 rfl rfl rfl ?_
      refine sp_goto rfl ?_
      refine sp_istore 137 rfl rfl rfl ?_
      exact k
    · have k := k.1 q
      refine sp_aload_n 108 rfl rfl rfl ?_
      refine hq_getI 111 rfl rfl rfl ?_
      refine sp_goto rfl ?_
      refine sp_istore 137 rfl rfl rfl ?_
      exact k
theorem sg_X11_going_137 {SL : Nat} {xs : Nat → Int32} {d : Nat} {p s q : Nat} {Q : Option Value → mm_H → Prop} {v1 : Int32} {v2 : Int32} {v3 : Int32} {v4 : Int32} {v5 : Int32} {I : Nat → Nat → Int32} {J : Nat → Nat → Int64}  (k : (¬ (I 65 59) = 0 ∧ w_X11_going_149 SL xs d p s q Q v1 v2 v3 v4 v5 (((v2 - (Int32.ofInt 1)) - (v2 - (Int32.ofInt 1)) / (I 65 59) * (I 65 59)) + (Int32.ofInt 1)) I J)) : w_X11_going_137 SL xs d p s q Q v1 v2 v3 v4 v5 I J := by
  unfold w_X11_going_137
  refine sp_iload_n 138 rfl rfl rfl ?_
  refine sp_iconst 139 rfl rfl ?_
  refine sp_isub 140 rfl rfl ?_
  refine sp_aload_n 141 rfl rfl rfl ?_
  refine hq_getI 144 rfl rfl rfl ?_
  have n3_ := k.1
  have k := k.2
  refine sp_irem 145 rfl n3_ rfl ?_
  refine sp_iconst 146 rfl rfl ?_
  refine sp_iadd 147 rfl rfl ?_
  refine sp_istore 149 rfl rfl rfl ?_
  exact k
theorem sg_X11_going_149 {SL : Nat} {xs : Nat → Int32} {d : Nat} {p s q : Nat} {Q : Option Value → mm_H → Prop} {v1 : Int32} {v2 : Int32} {v3 : Int32} {v4 : Int32} {v5 : Int32} {v6 : Int32} {I : Nat → Nat → Int32} {J : Nat → Nat → Int64}  (k : (vp_in v5 60 ∧ (((I 91 ((v5).toNatClampNeg)) = Int32.ofInt 0 → w_X11_going_162 SL xs d p s q Q v1 v2 v3 v4 v5 v6 I J) ∧ (¬ ((I 91 ((v5).toNatClampNeg)) = Int32.ofInt 0) → w_X11_going_162 SL xs d p s q Q v1 v2 v3 v4 v5 (v6 + Int32.ofInt (-1)) I J)))) : w_X11_going_149 SL xs d p s q Q v1 v2 v3 v4 v5 v6 I J := by
  unfold w_X11_going_149
  refine sp_aload_n 150 rfl rfl rfl ?_
  refine hq_getR 153 rfl rfl rfl rfl ?_
  refine sp_iload 155 rfl rfl rfl ?_
  have n4_ := k.1
  have k := k.2
  refine hq_zald 156 rfl rfl n4_ rfl ?_
  refine sp_if_eq 159 rfl rfl (fun q => ?_) (fun q => ?_)
  · have k := k.1 q
    exact k
  · have k := k.2 q
    refine sp_iinc 162 rfl rfl rfl rfl ?_
    exact k
theorem sg_X11_going_162 {SL : Nat} {xs : Nat → Int32} {d : Nat} {p s q : Nat} {Q : Option Value → mm_H → Prop} {v1 : Int32} {v2 : Int32} {v3 : Int32} {v4 : Int32} {v5 : Int32} {v6 : Int32} {I : Nat → Nat → Int32} {J : Nat → Nat → Int64}  (k : ((v6 = Int32.ofInt 0 → (vp_in v1 2 ∧ (vp_in v5 60 ∧ (mm_s SL xs (d + 2) 207 [.ref 65, .int v5] (hp p s q (mm_u (mm_u I 90 ((v1).toNatClampNeg) v5) 87 ((v5).toNatClampNeg) ((I 87 ((v5).toNatClampNeg)) + (Int32.ofInt 1))) J) (fun r_ h_ => ∃ x1 I1 J1, r_ = some (.int x1) ∧ h_ = hp p s q I1 J1 ∧ ((x1 = Int32.ofInt 0 → ((((I 87 ((v5).toNatClampNeg)) + (Int32.ofInt 1)) = ((I 65 51) + (Int32.ofInt 1)) → (mm_s SL xs (d + 2) 210 [.ref 65, .int v5, .int (I1 65 60)] (hp p s q I1 J1) (fun r_ h_ => ∃ I2 J2, r_ = none ∧ h_ = hp p s q I2 J2 ∧ w_X11_going_243 SL xs d p s q Q v1 v2 v3 v4 v5 v6 I2 J2))) ∧ (¬ (((I 87 ((v5).toNatClampNeg)) + (Int32.ofInt 1)) = ((I 65 51) + (Int32.ofInt 1))) → w_X11_going_243 SL xs d p s q Q v1 v2 v3 v4 v5 v6 I1 J1))) ∧ (¬ (x1 = Int32.ofInt 0) → ((((I 87 ((v5).toNatClampNeg)) + (Int32.ofInt 1)) = ((I 65 51) + (Int32.ofInt 2)) → (mm_s SL xs (d + 2) 210 [.ref 65, .int v5, .int (I1 65 60)] (hp p s q I1 J1) (fun r_ h_ => ∃ I3 J3, r_ = none ∧ h_ = hp p s q I3 J3 ∧ w_X11_going_243 SL xs d p s q Q v1 v2 v3 v4 v5 v6 I3 J3))) ∧ (¬ (((I 87 ((v5).toNatClampNeg)) + (Int32.ofInt 1)) = ((I 65 51) + (Int32.ofInt 2))) → w_X11_going_243 SL xs d p s q Q v1 v2 v3 v4 v5 v6 I1 J1))))))))) ∧ (¬ (v6 = Int32.ofInt 0) → (¬ (I 65 47) = 0 ∧ w_X11_going_149 SL xs d p s q Q v1 v2 v3 v4 ((v5 + v4) - (v5 + v4) / (I 65 47) * (I 65 47)) v6 I J)))) : w_X11_going_162 SL xs d p s q Q v1 v2 v3 v4 v5 v6 I J := by
  unfold w_X11_going_162
  refine sp_iload 164 rfl rfl rfl ?_
  refine sp_if_ne 167 rfl rfl (fun q => ?_) (fun q => ?_)
  · have k := k.2 q
    refine sp_iload 172 rfl rfl rfl ?_
    refine sp_iload 174 rfl rfl rfl ?_
    refine sp_iadd 175 rfl rfl ?_
    refine sp_aload_n 176 rfl rfl rfl ?_
    refine hq_getI 179 rfl rfl rfl ?_
    have n5_ := k.1
    have k := k.2
    refine sp_irem 180 rfl n5_ rfl ?_
    refine sp_istore 182 rfl rfl rfl ?_
    refine sp_goto rfl ?_
    exact k
  · have k := k.1 q
    refine sp_goto rfl ?_
    refine sp_aload_n 186 rfl rfl rfl ?_
    refine hq_getR 189 rfl rfl rfl rfl ?_
    refine sp_iload_n 190 rfl rfl rfl ?_
    refine sp_iload 192 rfl rfl rfl ?_
    have n6_ := k.1
    have k := k.2
    refine hq_iast 193 rfl rfl n6_ rfl ?_
    refine sp_aload_n 194 rfl rfl rfl ?_
    refine hq_getR 197 rfl rfl rfl rfl ?_
    refine sp_iload 199 rfl rfl rfl ?_
    refine sp_dup2 200 rfl rfl rfl rfl ?_
    have n7_ := k.1
    have k := k.2
    refine hq_iald 201 rfl rfl n7_ rfl ?_
    refine sp_I (y := (I 87 ((v5).toNatClampNeg))) (by simp [mm_u]) ?_
    refine sp_iconst 202 rfl rfl ?_
    refine sp_iadd 203 rfl rfl ?_
    refine hq_iast 204 rfl rfl n7_ rfl ?_
    refine sp_aload_n 205 rfl rfl rfl ?_
    refine hq_getR 208 rfl rfl rfl rfl ?_
    refine sp_iload 210 rfl rfl rfl ?_
    refine hq_iald 211 rfl rfl n7_ rfl ?_
    refine sp_I (y := ((I 87 ((v5).toNatClampNeg)) + (Int32.ofInt 1))) (by simp [mm_u]) ?_
    refine sp_aload_n 212 rfl rfl rfl ?_
    refine hq_getI 215 rfl rfl rfl ?_
    refine sp_I (y := (I 65 51)) (by simp [mm_u]) ?_
    refine sp_aload_n 216 rfl rfl rfl ?_
    refine sp_iload 218 rfl rfl rfl ?_
    refine sc_V 221 rfl rfl rfl rfl rfl (Nat.le_refl _) (Nat.le_refl _) rfl ?_
    refine mm_s_mono _ _ _ _ _ _ ?_ k
    rintro r_ h_ ⟨x1, I1, J1, rfl, rfl, k⟩
    refine sp_if_eq 224 rfl rfl (fun q => ?_) (fun q => ?_)
    · have k := k.1 q
      refine sp_iconst 229 rfl rfl ?_
      refine sp_iadd 230 rfl rfl ?_
      refine sp_ic_ne 233 rfl rfl (fun q => ?_) (fun q => ?_)
      · have k := k.2 q
        exact k
      · have k := k.1 q
        refine sp_aload_n 234 rfl rfl rfl ?_
        refine sp_iload 236 rfl rfl rfl ?_
        refine sp_aload_n 237 rfl rfl rfl ?_
        refine hq_getI 240 rfl rfl rfl ?_
        refine sc_V 243 rfl rfl rfl rfl rfl (Nat.le_refl _) (Nat.le_refl _) rfl ?_
        refine mm_s_mono _ _ _ _ _ _ ?_ k
        rintro r_ h_ ⟨I2, J2, rfl, rfl, k⟩
        exact k
    · have k := k.2 q
      refine sp_iconst 225 rfl rfl ?_
      refine sp_goto rfl ?_
      refine sp_iadd 230 rfl rfl ?_
      refine sp_ic_ne 233 rfl rfl (fun q => ?_) (fun q => ?_)
      · have k := k.2 q
        exact k
      · have k := k.1 q
        refine sp_aload_n 234 rfl rfl rfl ?_
        refine sp_iload 236 rfl rfl rfl ?_
        refine sp_aload_n 237 rfl rfl rfl ?_
        refine hq_getI 240 rfl rfl rfl ?_
        refine sc_V 243 rfl rfl rfl rfl rfl (Nat.le_refl _) (Nat.le_refl _) rfl ?_
        refine mm_s_mono _ _ _ _ _ _ ?_ k
        rintro r_ h_ ⟨I3, J3, rfl, rfl, k⟩
        exact k
theorem sg_X11_going_243 {SL : Nat} {xs : Nat → Int32} {d : Nat} {p s q : Nat} {Q : Option Value → mm_H → Prop} {v1 : Int32} {v2 : Int32} {v3 : Int32} {v4 : Int32} {v5 : Int32} {v6 : Int32} {I : Nat → Nat → Int32} {J : Nat → Nat → Int64}  (k : (((I 65 50) ≤ Int32.ofInt 0 → Q none (hp p s q I J)) ∧ (¬ ((I 65 50) ≤ Int32.ofInt 0) → (¬ (I 65 50) = 0 ∧ ((((I 65 60) - (I 65 60) / (I 65 50) * (I 65 50)) = Int32.ofInt 0 → (((I 65 64) = Int32.ofInt 0 → Q none (hp p s q (mm_u I 65 64 (Int32.ofInt 1)) J)) ∧ (¬ ((I 65 64) = Int32.ofInt 0) → Q none (hp p s q (mm_u I 65 64 (Int32.ofInt 0)) J)))) ∧ (¬ (((I 65 60) - (I 65 60) / (I 65 50) * (I 65 50)) = Int32.ofInt 0) → Q none (hp p s q I J))))))) : w_X11_going_243 SL xs d p s q Q v1 v2 v3 v4 v5 v6 I J := by
  unfold w_X11_going_243
  refine sp_aload_n 244 rfl rfl rfl ?_
  refine hq_getI 247 rfl rfl rfl ?_
  refine sp_if_le 250 rfl rfl (fun q => ?_) (fun q => ?_)
  · have k := k.1 q
    exact st_vret rfl rfl (Nat.le_refl _) (Nat.le_refl _) k
  · have k := k.2 q
    refine sp_aload_n 251 rfl rfl rfl ?_
    refine hq_getI 254 rfl rfl rfl ?_
    refine sp_aload_n 255 rfl rfl rfl ?_
    refine hq_getI 258 rfl rfl rfl ?_
    have n8_ := k.1
    have k := k.2
    refine sp_irem 259 rfl n8_ rfl ?_
    refine sp_if_ne 262 rfl rfl (fun q => ?_) (fun q => ?_)
    · have k := k.2 q
      exact st_vret rfl rfl (Nat.le_refl _) (Nat.le_refl _) k
    · have k := k.1 q
      refine sp_aload_n 263 rfl rfl rfl ?_
      refine sp_aload_n 264 rfl rfl rfl ?_
      refine hq_getI 267 rfl rfl rfl ?_
      refine sp_if_ne 270 rfl rfl (fun q => ?_) (fun q => ?_)
      · have k := k.2 q
        refine sp_iconst 275 rfl rfl ?_
        refine hq_putZ 278 rfl rfl (by decide) rfl ?_
        exact st_vret rfl rfl (Nat.le_refl _) (Nat.le_refl _) k
      · have k := k.1 q
        refine sp_iconst 271 rfl rfl ?_
        refine sp_goto rfl ?_
        refine hq_putZ 278 rfl rfl (by decide) rfl ?_
        exact st_vret rfl rfl (Nat.le_refl _) (Nat.le_refl _) k
def w_X11_keeps_26 (SL : Nat) (xs : Nat → Int32) (d : Nat) (p s q : Nat) (Q : Option Value → mm_H → Prop) (v1 : Int32) (v2 : Int64) (v4 : Int32) (v5 : Int32) (I : Nat → Nat → Int32) (J : Nat → Nat → Int64) : Prop := mm_w SL xs (mm_s SL xs (d + 2)) mm_am kX11_keeps 0 0 (some .int) Q 26 [some (.ref 65), some (.int v1), some (.long v2), none, some (.int v4), some (.int v5)] [] (hp p s q I J) 0 0
theorem sg_X11_keeps {SL : Nat} {xs : Nat → Int32} {d : Nat} {p s q : Nat} {Q : Option Value → mm_H → Prop} {a0 : Int32} {a1 : Int64} {I : Nat → Nat → Int32} {J : Nat → Nat → Int64}  (k : (((sx_X11_isSmall a0) = Int32.ofInt 0 → Q (some (.int (Int32.ofInt (-1)))) (hp p s q I J)) ∧ (¬ ((sx_X11_isSmall a0) = Int32.ofInt 0) → (((sx_X11_isSet a1 a0) = Int32.ofInt 0 → Q (some (.int (Int32.ofInt (-1)))) (hp p s q I J)) ∧ (¬ ((sx_X11_isSet a1 a0) = Int32.ofInt 0) → (mm_s SL xs (d + 2) 239 [.long a1] (hp p s q I J) (fun r_ h_ => ∃ x1 I1 J1, r_ = some (.int x1) ∧ h_ = hp p s q I1 J1 ∧ w_X11_keeps_26 SL xs d p s q Q a0 a1 x1 (Int32.ofInt 1) I1 J1))))))) : mm_s SL xs (d + 3) 241 [.ref 65, .int a0, .long a1] (hp p s q I J) Q := by
  refine e_X11_keeps rfl ?_
  refine sp_iload_n 1 rfl rfl rfl ?_
  refine sc_S 4 rfl rfl rfl rfl (Nat.le_refl _) (Nat.le_refl _) rfl ?_
  refine cx_X11_isSmall ?_
  refine sp_if_eq 7 rfl rfl (fun q => ?_) (fun q => ?_)
  · have k := k.1 q
    refine sp_iconst 16 rfl rfl ?_
    exact st_iret rfl rfl (Nat.le_refl _) (Nat.le_refl _) k
  · have k := k.2 q
    refine sp_lload_n 8 rfl rfl rfl ?_
    refine sp_iload_n 9 rfl rfl rfl ?_
    refine sc_S 12 rfl rfl rfl rfl (Nat.le_refl _) (Nat.le_refl _) rfl ?_
    refine cx_X11_isSet ?_
    refine sp_if_ne 15 rfl rfl (fun q => ?_) (fun q => ?_)
    · have k := k.2 q
      refine sp_lload_n 18 rfl rfl rfl ?_
      refine sc_S 21 rfl rfl rfl rfl (Nat.le_refl _) (Nat.le_refl _) rfl ?_
      refine mm_s_mono _ _ _ _ _ _ ?_ k
      rintro r_ h_ ⟨x1, I1, J1, rfl, rfl, k⟩
      refine sp_istore 23 rfl rfl rfl ?_
      refine sp_iconst 24 rfl rfl ?_
      refine sp_istore 26 rfl rfl rfl ?_
      exact k
    · have k := k.1 q
      refine sp_iconst 16 rfl rfl ?_
      exact st_iret rfl rfl (Nat.le_refl _) (Nat.le_refl _) k
theorem sg_X11_keeps_26 {SL : Nat} {xs : Nat → Int32} {d : Nat} {p s q : Nat} {Q : Option Value → mm_H → Prop} {v1 : Int32} {v2 : Int64} {v4 : Int32} {v5 : Int32} {I : Nat → Nat → Int32} {J : Nat → Nat → Int64}  (k : (((Int32.ofInt 3000) < v5 → Q (some (.int (Int32.ofInt (-1)))) (hp p s q I J)) ∧ (¬ ((Int32.ofInt 3000) < v5) → (mm_s SL xs (d + 2) 240 [.int v1, .int v5, .long v2, .int ((v1 - v4) + (Int32.ofInt 1)), .int v1] (hp p s q I J) (fun r_ h_ => ∃ x1 I1 J1, r_ = some (.int x1) ∧ h_ = hp p s q I1 J1 ∧ ((x1 = Int32.ofInt 0 → w_X11_keeps_26 SL xs d p s q Q v1 v2 v4 (v5 + Int32.ofInt 1) I1 J1) ∧ (¬ (x1 = Int32.ofInt 0) → Q (some (.int v5)) (hp p s q I1 J1)))))))) : w_X11_keeps_26 SL xs d p s q Q v1 v2 v4 v5 I J := by
  unfold w_X11_keeps_26
  refine sp_iload 28 rfl rfl rfl ?_
  refine sp_sipush 31 rfl rfl ?_
  refine sp_I (y := Int32.ofInt 3000) rfl ?_
  refine sp_ic_gt 34 rfl rfl (fun q => ?_) (fun q => ?_)
  · have k := k.1 q
    refine sp_iconst 61 rfl rfl ?_
    exact st_iret rfl rfl (Nat.le_refl _) (Nat.le_refl _) k
  · have k := k.2 q
    refine sp_iload_n 35 rfl rfl rfl ?_
    refine sp_iload 37 rfl rfl rfl ?_
    refine sp_lload_n 38 rfl rfl rfl ?_
    refine sp_iload_n 39 rfl rfl rfl ?_
    refine sp_iload 41 rfl rfl rfl ?_
    refine sp_isub 42 rfl rfl ?_
    refine sp_iconst 43 rfl rfl ?_
    refine sp_iadd 44 rfl rfl ?_
    refine sp_iload_n 45 rfl rfl rfl ?_
    refine sc_S 48 rfl rfl rfl rfl (Nat.le_refl _) (Nat.le_refl _) rfl ?_
    refine mm_s_mono _ _ _ _ _ _ ?_ k
    rintro r_ h_ ⟨x1, I1, J1, rfl, rfl, k⟩
    refine sp_if_eq 51 rfl rfl (fun q => ?_) (fun q => ?_)
    · have k := k.1 q
      refine sp_iinc 57 rfl rfl rfl rfl ?_
      refine sp_goto rfl ?_
      exact k
    · have k := k.2 q
      refine sp_iload 53 rfl rfl rfl ?_
      exact st_iret rfl rfl (Nat.le_refl _) (Nat.le_refl _) k
def w_X11_first_26 (SL : Nat) (xs : Nat → Int32) (d : Nat) (p s q : Nat) (Q : Option Value → mm_H → Prop) (v1 : Int32) (v2 : Int64) (v4 : Int32) (v5 : Int32) (I : Nat → Nat → Int32) (J : Nat → Nat → Int64) : Prop := mm_w SL xs (mm_s SL xs (d + 2)) mm_am kX11_first 0 0 (some .int) Q 26 [some (.ref 65), some (.int v1), some (.long v2), none, some (.int v4), some (.int v5)] [] (hp p s q I J) 0 0
theorem sg_X11_first {SL : Nat} {xs : Nat → Int32} {d : Nat} {p s q : Nat} {Q : Option Value → mm_H → Prop} {a0 : Int32} {a1 : Int64} {I : Nat → Nat → Int32} {J : Nat → Nat → Int64}  (k : (((sx_X11_isSmall a0) = Int32.ofInt 0 → Q (some (.int (Int32.ofInt (-1)))) (hp p s q I J)) ∧ (¬ ((sx_X11_isSmall a0) = Int32.ofInt 0) → (((sx_X11_isSet a1 a0) = Int32.ofInt 0 → Q (some (.int (Int32.ofInt (-1)))) (hp p s q I J)) ∧ (¬ ((sx_X11_isSet a1 a0) = Int32.ofInt 0) → (mm_s SL xs (d + 2) 239 [.long a1] (hp p s q I J) (fun r_ h_ => ∃ x1 I1 J1, r_ = some (.int x1) ∧ h_ = hp p s q I1 J1 ∧ w_X11_first_26 SL xs d p s q Q a0 a1 x1 (Int32.ofInt 1) I1 J1))))))) : mm_s SL xs (d + 3) 242 [.ref 65, .int a0, .long a1] (hp p s q I J) Q := by
  refine e_X11_first rfl ?_
  refine sp_iload_n 1 rfl rfl rfl ?_
  refine sc_S 4 rfl rfl rfl rfl (Nat.le_refl _) (Nat.le_refl _) rfl ?_
  refine cx_X11_isSmall ?_
  refine sp_if_eq 7 rfl rfl (fun q => ?_) (fun q => ?_)
  · have k := k.1 q
    refine sp_iconst 16 rfl rfl ?_
    exact st_iret rfl rfl (Nat.le_refl _) (Nat.le_refl _) k
  · have k := k.2 q
    refine sp_lload_n 8 rfl rfl rfl ?_
    refine sp_iload_n 9 rfl rfl rfl ?_
    refine sc_S 12 rfl rfl rfl rfl (Nat.le_refl _) (Nat.le_refl _) rfl ?_
    refine cx_X11_isSet ?_
    refine sp_if_ne 15 rfl rfl (fun q => ?_) (fun q => ?_)
    · have k := k.2 q
      refine sp_lload_n 18 rfl rfl rfl ?_
      refine sc_S 21 rfl rfl rfl rfl (Nat.le_refl _) (Nat.le_refl _) rfl ?_
      refine mm_s_mono _ _ _ _ _ _ ?_ k
      rintro r_ h_ ⟨x1, I1, J1, rfl, rfl, k⟩
      refine sp_istore 23 rfl rfl rfl ?_
      refine sp_iconst 24 rfl rfl ?_
      refine sp_istore 26 rfl rfl rfl ?_
      exact k
    · have k := k.1 q
      refine sp_iconst 16 rfl rfl ?_
      exact st_iret rfl rfl (Nat.le_refl _) (Nat.le_refl _) k
theorem sg_X11_first_26 {SL : Nat} {xs : Nat → Int32} {d : Nat} {p s q : Nat} {Q : Option Value → mm_H → Prop} {v1 : Int32} {v2 : Int64} {v4 : Int32} {v5 : Int32} {I : Nat → Nat → Int32} {J : Nat → Nat → Int64}  (k : (((Int32.ofInt 3000) < v5 → Q (some (.int (Int32.ofInt (-1)))) (hp p s q I J)) ∧ (¬ ((Int32.ofInt 3000) < v5) → (mm_s SL xs (d + 2) 240 [.int v1, .int v5, .long v2, .int (Int32.ofInt 1), .int v4] (hp p s q I J) (fun r_ h_ => ∃ x1 I1 J1, r_ = some (.int x1) ∧ h_ = hp p s q I1 J1 ∧ ((x1 = Int32.ofInt 0 → w_X11_first_26 SL xs d p s q Q v1 v2 v4 (v5 + Int32.ofInt 1) I1 J1) ∧ (¬ (x1 = Int32.ofInt 0) → Q (some (.int v5)) (hp p s q I1 J1)))))))) : w_X11_first_26 SL xs d p s q Q v1 v2 v4 v5 I J := by
  unfold w_X11_first_26
  refine sp_iload 28 rfl rfl rfl ?_
  refine sp_sipush 31 rfl rfl ?_
  refine sp_I (y := Int32.ofInt 3000) rfl ?_
  refine sp_ic_gt 34 rfl rfl (fun q => ?_) (fun q => ?_)
  · have k := k.1 q
    refine sp_iconst 57 rfl rfl ?_
    exact st_iret rfl rfl (Nat.le_refl _) (Nat.le_refl _) k
  · have k := k.2 q
    refine sp_iload_n 35 rfl rfl rfl ?_
    refine sp_iload 37 rfl rfl rfl ?_
    refine sp_lload_n 38 rfl rfl rfl ?_
    refine sp_iconst 39 rfl rfl ?_
    refine sp_iload 41 rfl rfl rfl ?_
    refine sc_S 44 rfl rfl rfl rfl (Nat.le_refl _) (Nat.le_refl _) rfl ?_
    refine mm_s_mono _ _ _ _ _ _ ?_ k
    rintro r_ h_ ⟨x1, I1, J1, rfl, rfl, k⟩
    refine sp_if_eq 47 rfl rfl (fun q => ?_) (fun q => ?_)
    · have k := k.1 q
      refine sp_iinc 53 rfl rfl rfl rfl ?_
      refine sp_goto rfl ?_
      exact k
    · have k := k.2 q
      refine sp_iload 49 rfl rfl rfl ?_
      exact st_iret rfl rfl (Nat.le_refl _) (Nat.le_refl _) k
def w_X11_never_29 (SL : Nat) (xs : Nat → Int32) (d : Nat) (p s q : Nat) (Q : Option Value → mm_H → Prop) (v1 : Int32) (v2 : Int32) (v3 : Int64) (v5 : Int32) (I : Nat → Nat → Int32) (J : Nat → Nat → Int64) : Prop := mm_w SL xs (mm_s SL xs (d + 2)) mm_am kX11_never 0 0 (some .long) Q 29 [some (.ref 65), some (.int v1), some (.int v2), some (.long v3), none, some (.int v5)] [] (hp p s q I J) 0 0
theorem sg_X11_never {SL : Nat} {xs : Nat → Int32} {d : Nat} {p s q : Nat} {Q : Option Value → mm_H → Prop} {a0 : Int32} {a1 : Int32} {I : Nat → Nat → Int32} {J : Nat → Nat → Int64}  (k : (((sx_X11_isSmall a0) = Int32.ofInt 0 → Q (some (.long (Int64.ofInt (-1)))) (hp p s q I J)) ∧ (¬ ((sx_X11_isSmall a0) = Int32.ofInt 0) → (((sx_X11_areNumbers a1) = Int32.ofInt 0 → Q (some (.long (Int64.ofInt (-1)))) (hp p s q I J)) ∧ (¬ ((sx_X11_areNumbers a1) = Int32.ofInt 0) → (mm_s SL xs (d + 2) 250 [.ref 65, .int a0, .int a1] (hp p s q I J) (fun r_ h_ => ∃ I1 J1, r_ = none ∧ h_ = hp p s q I1 J1 ∧ w_X11_never_29 SL xs d p s q Q a0 a1 (Int64.ofInt 0) (Int32.ofInt 0) I1 J1))))))) : mm_s SL xs (d + 3) 251 [.ref 65, .int a0, .int a1] (hp p s q I J) Q := by
  refine e_X11_never rfl ?_
  refine sp_iload_n 1 rfl rfl rfl ?_
  refine sc_S 4 rfl rfl rfl rfl (Nat.le_refl _) (Nat.le_refl _) rfl ?_
  refine cx_X11_isSmall ?_
  refine sp_if_eq 7 rfl rfl (fun q => ?_) (fun q => ?_)
  · have k := k.1 q
    refine sp_ldc2 17 rfl rfl ?_
    exact st_lret rfl rfl (Nat.le_refl _) (Nat.le_refl _) k
  · have k := k.2 q
    refine sp_iload_n 8 rfl rfl rfl ?_
    refine sc_S 11 rfl rfl rfl rfl (Nat.le_refl _) (Nat.le_refl _) rfl ?_
    refine cx_X11_areNumbers ?_
    refine sp_if_ne 14 rfl rfl (fun q => ?_) (fun q => ?_)
    · have k := k.2 q
      refine sp_aload_n 19 rfl rfl rfl ?_
      refine sp_iload_n 20 rfl rfl rfl ?_
      refine sp_iload_n 21 rfl rfl rfl ?_
      refine sc_V 24 rfl rfl rfl rfl rfl (Nat.le_refl _) (Nat.le_refl _) rfl ?_
      refine mm_s_mono _ _ _ _ _ _ ?_ k
      rintro r_ h_ ⟨I1, J1, rfl, rfl, k⟩
      refine sp_lconst 25 rfl rfl ?_
      refine sp_J (y := Int64.ofInt 0) rfl ?_
      refine sp_lstore_n 26 rfl rfl rfl ?_
      refine sp_iconst 27 rfl rfl ?_
      refine sp_istore 29 rfl rfl rfl ?_
      exact k
    · have k := k.1 q
      refine sp_ldc2 17 rfl rfl ?_
      exact st_lret rfl rfl (Nat.le_refl _) (Nat.le_refl _) k
theorem sg_X11_never_29 {SL : Nat} {xs : Nat → Int32} {d : Nat} {p s q : Nat} {Q : Option Value → mm_H → Prop} {v1 : Int32} {v2 : Int32} {v3 : Int64} {v5 : Int32} {I : Nat → Nat → Int32} {J : Nat → Nat → Int64}  (k : ((v1 ≤ v5 → Q (some (.long v3)) (hp p s q I J)) ∧ (¬ (v1 ≤ v5) → (vp_in v5 60 ∧ (((I 99 ((v5).toNatClampNeg)) = Int32.ofInt 0 → w_X11_never_29 SL xs d p s q Q v1 v2 (v3 ||| ((Int64.ofInt 1) <<< ((v5).toInt64 &&& 63))) (v5 + Int32.ofInt 1) I J) ∧ (¬ ((I 99 ((v5).toNatClampNeg)) = Int32.ofInt 0) → w_X11_never_29 SL xs d p s q Q v1 v2 (v3 ||| (Int64.ofInt 0)) (v5 + Int32.ofInt 1) I J)))))) : w_X11_never_29 SL xs d p s q Q v1 v2 v3 v5 I J := by
  unfold w_X11_never_29
  refine sp_iload 31 rfl rfl rfl ?_
  refine sp_iload_n 32 rfl rfl rfl ?_
  refine sp_ic_ge 35 rfl rfl (fun q => ?_) (fun q => ?_)
  · have k := k.1 q
    refine sp_lload_n 63 rfl rfl rfl ?_
    exact st_lret rfl rfl (Nat.le_refl _) (Nat.le_refl _) k
  · have k := k.2 q
    refine sp_lload_n 36 rfl rfl rfl ?_
    refine sp_aload_n 37 rfl rfl rfl ?_
    refine hq_getR 40 rfl rfl rfl rfl ?_
    refine sp_iload 42 rfl rfl rfl ?_
    have n1_ := k.1
    have k := k.2
    refine hq_iald 43 rfl rfl n1_ rfl ?_
    refine sp_if_ne 46 rfl rfl (fun q => ?_) (fun q => ?_)
    · have k := k.2 q
      refine sp_lconst 54 rfl rfl ?_
      refine sp_J (y := Int64.ofInt 0) rfl ?_
      refine sp_lor 55 rfl rfl ?_
      refine sp_lstore_n 56 rfl rfl rfl ?_
      refine sp_iinc 59 rfl rfl rfl rfl ?_
      refine sp_goto rfl ?_
      exact k
    · have k := k.1 q
      refine sp_lconst 47 rfl rfl ?_
      refine sp_J (y := Int64.ofInt 1) rfl ?_
      refine sp_iload 49 rfl rfl rfl ?_
      refine sp_lshl 50 rfl rfl ?_
      refine sp_goto rfl ?_
      refine sp_lor 55 rfl rfl ?_
      refine sp_lstore_n 56 rfl rfl rfl ?_
      refine sp_iinc 59 rfl rfl rfl rfl ?_
      refine sp_goto rfl ?_
      exact k
def w_X11_often_37 (SL : Nat) (xs : Nat → Int32) (d : Nat) (p s q : Nat) (Q : Option Value → mm_H → Prop) (v1 : Int32) (v2 : Int32) (v3 : Int32) (v4 : Int32) (v5 : Int32) (I : Nat → Nat → Int32) (J : Nat → Nat → Int64) : Prop := mm_w SL xs (mm_s SL xs (d + 2)) mm_am kX11_often 0 0 (some .int) Q 37 [some (.ref 65), some (.int v1), some (.int v2), some (.int v3), some (.int v4), some (.int v5)] [] (hp p s q I J) 0 0
theorem sg_X11_often {SL : Nat} {xs : Nat → Int32} {d : Nat} {p s q : Nat} {Q : Option Value → mm_H → Prop} {a0 : Int32} {a1 : Int32} {a2 : Int32} {I : Nat → Nat → Int32} {J : Nat → Nat → Int64}  (k : (((sx_X11_isSmall a0) = Int32.ofInt 0 → Q (some (.int (Int32.ofInt (-1)))) (hp p s q I J)) ∧ (¬ ((sx_X11_isSmall a0) = Int32.ofInt 0) → (((sx_X11_areNumbers a1) = Int32.ofInt 0 → Q (some (.int (Int32.ofInt (-1)))) (hp p s q I J)) ∧ (¬ ((sx_X11_areNumbers a1) = Int32.ofInt 0) → ((a2 < Int32.ofInt 0 → Q (some (.int (Int32.ofInt (-1)))) (hp p s q I J)) ∧ (¬ (a2 < Int32.ofInt 0) → ((a2 ≤ (Int32.ofInt 1) → (mm_s SL xs (d + 2) 250 [.ref 65, .int a0, .int a1] (hp p s q I J) (fun r_ h_ => ∃ I1 J1, r_ = none ∧ h_ = hp p s q I1 J1 ∧ w_X11_often_37 SL xs d p s q Q a0 a1 a2 (Int32.ofInt 0) (Int32.ofInt 1) I1 J1))) ∧ (¬ (a2 ≤ (Int32.ofInt 1)) → Q (some (.int (Int32.ofInt (-1)))) (hp p s q I J)))))))))) : mm_s SL xs (d + 3) 252 [.ref 65, .int a0, .int a1, .int a2] (hp p s q I J) Q := by
  refine e_X11_often rfl ?_
  refine sp_iload_n 1 rfl rfl rfl ?_
  refine sc_S 4 rfl rfl rfl rfl (Nat.le_refl _) (Nat.le_refl _) rfl ?_
  refine cx_X11_isSmall ?_
  refine sp_if_eq 7 rfl rfl (fun q => ?_) (fun q => ?_)
  · have k := k.1 q
    refine sp_iconst 24 rfl rfl ?_
    exact st_iret rfl rfl (Nat.le_refl _) (Nat.le_refl _) k
  · have k := k.2 q
    refine sp_iload_n 8 rfl rfl rfl ?_
    refine sc_S 11 rfl rfl rfl rfl (Nat.le_refl _) (Nat.le_refl _) rfl ?_
    refine cx_X11_areNumbers ?_
    refine sp_if_eq 14 rfl rfl (fun q => ?_) (fun q => ?_)
    · have k := k.1 q
      refine sp_iconst 24 rfl rfl ?_
      exact st_iret rfl rfl (Nat.le_refl _) (Nat.le_refl _) k
    · have k := k.2 q
      refine sp_iload_n 15 rfl rfl rfl ?_
      refine sp_if_lt 18 rfl rfl (fun q => ?_) (fun q => ?_)
      · have k := k.1 q
        refine sp_iconst 24 rfl rfl ?_
        exact st_iret rfl rfl (Nat.le_refl _) (Nat.le_refl _) k
      · have k := k.2 q
        refine sp_iload_n 19 rfl rfl rfl ?_
        refine sp_iconst 20 rfl rfl ?_
        refine sp_ic_le 23 rfl rfl (fun q => ?_) (fun q => ?_)
        · have k := k.1 q
          refine sp_aload_n 26 rfl rfl rfl ?_
          refine sp_iload_n 27 rfl rfl rfl ?_
          refine sp_iload_n 28 rfl rfl rfl ?_
          refine sc_V 31 rfl rfl rfl rfl rfl (Nat.le_refl _) (Nat.le_refl _) rfl ?_
          refine mm_s_mono _ _ _ _ _ _ ?_ k
          rintro r_ h_ ⟨I1, J1, rfl, rfl, k⟩
          refine sp_iconst 32 rfl rfl ?_
          refine sp_istore 34 rfl rfl rfl ?_
          refine sp_iconst 35 rfl rfl ?_
          refine sp_istore 37 rfl rfl rfl ?_
          exact k
        · have k := k.2 q
          refine sp_iconst 24 rfl rfl ?_
          exact st_iret rfl rfl (Nat.le_refl _) (Nat.le_refl _) k
theorem sg_X11_often_37 {SL : Nat} {xs : Nat → Int32} {d : Nat} {p s q : Nat} {Q : Option Value → mm_H → Prop} {v1 : Int32} {v2 : Int32} {v3 : Int32} {v4 : Int32} {v5 : Int32} {I : Nat → Nat → Int32} {J : Nat → Nat → Int64}  (k : ((v1 ≤ v5 → ((v3 = Int32.ofInt 0 → Q (some (.int v4)) (hp p s q I J)) ∧ (¬ (v3 = Int32.ofInt 0) → (vp_in v4 60 ∧ Q (some (.int (I 99 ((v4).toNatClampNeg)))) (hp p s q I J))))) ∧ (¬ (v1 ≤ v5) → (vp_in v5 60 ∧ (vp_in v4 60 ∧ (((I 99 ((v5).toNatClampNeg)) ≤ (I 99 ((v4).toNatClampNeg)) → w_X11_often_37 SL xs d p s q Q v1 v2 v3 v4 (v5 + Int32.ofInt 1) I J) ∧ (¬ ((I 99 ((v5).toNatClampNeg)) ≤ (I 99 ((v4).toNatClampNeg))) → w_X11_often_37 SL xs d p s q Q v1 v2 v3 v5 (v5 + Int32.ofInt 1) I J))))))) : w_X11_often_37 SL xs d p s q Q v1 v2 v3 v4 v5 I J := by
  unfold w_X11_often_37
  refine sp_iload 39 rfl rfl rfl ?_
  refine sp_iload_n 40 rfl rfl rfl ?_
  refine sp_ic_ge 43 rfl rfl (fun q => ?_) (fun q => ?_)
  · have k := k.1 q
    refine sp_iload_n 71 rfl rfl rfl ?_
    refine sp_if_ne 74 rfl rfl (fun q => ?_) (fun q => ?_)
    · have k := k.2 q
      refine sp_aload_n 80 rfl rfl rfl ?_
      refine hq_getR 83 rfl rfl rfl rfl ?_
      refine sp_iload 85 rfl rfl rfl ?_
      have n1_ := k.1
      have k := k.2
      refine hq_iald 86 rfl rfl n1_ rfl ?_
      exact st_iret rfl rfl (Nat.le_refl _) (Nat.le_refl _) k
    · have k := k.1 q
      refine sp_iload 76 rfl rfl rfl ?_
      refine sp_goto rfl ?_
      exact st_iret rfl rfl (Nat.le_refl _) (Nat.le_refl _) k
  · have k := k.2 q
    refine sp_aload_n 44 rfl rfl rfl ?_
    refine hq_getR 47 rfl rfl rfl rfl ?_
    refine sp_iload 49 rfl rfl rfl ?_
    have n2_ := k.1
    have k := k.2
    refine hq_iald 50 rfl rfl n2_ rfl ?_
    refine sp_aload_n 51 rfl rfl rfl ?_
    refine hq_getR 54 rfl rfl rfl rfl ?_
    refine sp_iload 56 rfl rfl rfl ?_
    have n3_ := k.1
    have k := k.2
    refine hq_iald 57 rfl rfl n3_ rfl ?_
    refine sp_ic_le 60 rfl rfl (fun q => ?_) (fun q => ?_)
    · have k := k.1 q
      refine sp_iinc 67 rfl rfl rfl rfl ?_
      refine sp_goto rfl ?_
      exact k
    · have k := k.2 q
      refine sp_iload 62 rfl rfl rfl ?_
      refine sp_istore 64 rfl rfl rfl ?_
      refine sp_iinc 67 rfl rfl rfl rfl ?_
      refine sp_goto rfl ?_
      exact k
theorem sg_X11_chance {SL : Nat} {xs : Nat → Int32} {d : Nat} {p s q : Nat} {Q : Option Value → mm_H → Prop} {a0 : Int32} {a1 : Int32} {a2 : Int32} {I : Nat → Nat → Int32} {J : Nat → Nat → Int64}  (k : (((sx_X11_isSmall a0) = Int32.ofInt 0 → Q (some (.int (Int32.ofInt (-1)))) (hp p s q I J)) ∧ (¬ ((sx_X11_isSmall a0) = Int32.ofInt 0) → ((a1 < Int32.ofInt 0 → Q (some (.int (Int32.ofInt (-1)))) (hp p s q I J)) ∧ (¬ (a1 < Int32.ofInt 0) → ((a0 ≤ a1 → Q (some (.int (Int32.ofInt (-1)))) (hp p s q I J)) ∧ (¬ (a0 ≤ a1) → (((sx_X11_isPart a2) = Int32.ofInt 0 → Q (some (.int (Int32.ofInt (-1)))) (hp p s q I J)) ∧ (¬ ((sx_X11_isPart a2) = Int32.ofInt 0) → (((I 65 44) ≤ Int32.ofInt 0 → Q (some (.int (Int32.ofInt (-1)))) (hp p s q I J)) ∧ (¬ ((I 65 44) ≤ Int32.ofInt 0) → (mm_s SL xs (d + 2) 255 [.ref 65, .int a0, .int a1] (hp p s q I J) (fun r_ h_ => ∃ x1 I1 J1, r_ = some (.int x1) ∧ h_ = hp p s q I1 J1 ∧ (mm_s SL xs (d + 2) 254 [.ref 65] (hp p s q I1 J1) (fun r_ h_ => ∃ x2 I2 J2, r_ = some (.int x2) ∧ h_ = hp p s q I2 J2 ∧ (mm_s SL xs (d + 2) 256 [.int x1, .int x2, .int a2] (hp p s q I2 J2) (fun r_ h_ => ∃ x3 I3 J3, r_ = some (.int x3) ∧ h_ = hp p s q I3 J3 ∧ Q (some (.int x3)) (hp p s q I3 J3)))))))))))))))))) : mm_s SL xs (d + 3) 258 [.ref 65, .int a0, .int a1, .int a2] (hp p s q I J) Q := by
  refine e_X11_chance rfl ?_
  refine sp_iload_n 1 rfl rfl rfl ?_
  refine sc_S 4 rfl rfl rfl rfl (Nat.le_refl _) (Nat.le_refl _) rfl ?_
  refine cx_X11_isSmall ?_
  refine sp_if_eq 7 rfl rfl (fun q => ?_) (fun q => ?_)
  · have k := k.1 q
    refine sp_iconst 48 rfl rfl ?_
    exact st_iret rfl rfl (Nat.le_refl _) (Nat.le_refl _) k
  · have k := k.2 q
    refine sp_iload_n 8 rfl rfl rfl ?_
    refine sp_if_lt 11 rfl rfl (fun q => ?_) (fun q => ?_)
    · have k := k.1 q
      refine sp_iconst 48 rfl rfl ?_
      exact st_iret rfl rfl (Nat.le_refl _) (Nat.le_refl _) k
    · have k := k.2 q
      refine sp_iload_n 12 rfl rfl rfl ?_
      refine sp_iload_n 13 rfl rfl rfl ?_
      refine sp_ic_ge 16 rfl rfl (fun q => ?_) (fun q => ?_)
      · have k := k.1 q
        refine sp_iconst 48 rfl rfl ?_
        exact st_iret rfl rfl (Nat.le_refl _) (Nat.le_refl _) k
      · have k := k.2 q
        refine sp_iload_n 17 rfl rfl rfl ?_
        refine sc_S 20 rfl rfl rfl rfl (Nat.le_refl _) (Nat.le_refl _) rfl ?_
        refine cx_X11_isPart ?_
        refine sp_if_eq 23 rfl rfl (fun q => ?_) (fun q => ?_)
        · have k := k.1 q
          refine sp_iconst 48 rfl rfl ?_
          exact st_iret rfl rfl (Nat.le_refl _) (Nat.le_refl _) k
        · have k := k.2 q
          refine sp_aload_n 24 rfl rfl rfl ?_
          refine hq_getI 27 rfl rfl rfl ?_
          refine sp_if_le 30 rfl rfl (fun q => ?_) (fun q => ?_)
          · have k := k.1 q
            refine sp_iconst 48 rfl rfl ?_
            exact st_iret rfl rfl (Nat.le_refl _) (Nat.le_refl _) k
          · have k := k.2 q
            refine sp_aload_n 31 rfl rfl rfl ?_
            refine sp_iload_n 32 rfl rfl rfl ?_
            refine sp_iload_n 33 rfl rfl rfl ?_
            refine sc_V 36 rfl rfl rfl rfl rfl (Nat.le_refl _) (Nat.le_refl _) rfl ?_
            refine mm_s_mono _ _ _ _ _ _ ?_ k
            rintro r_ h_ ⟨x1, I1, J1, rfl, rfl, k⟩
            refine sp_aload_n 37 rfl rfl rfl ?_
            refine sc_V 40 rfl rfl rfl rfl rfl (Nat.le_refl _) (Nat.le_refl _) rfl ?_
            refine mm_s_mono _ _ _ _ _ _ ?_ k
            rintro r_ h_ ⟨x2, I2, J2, rfl, rfl, k⟩
            refine sp_iload_n 41 rfl rfl rfl ?_
            refine sc_S 44 rfl rfl rfl rfl (Nat.le_refl _) (Nat.le_refl _) rfl ?_
            refine mm_s_mono _ _ _ _ _ _ ?_ k
            rintro r_ h_ ⟨x3, I3, J3, rfl, rfl, k⟩
            refine sp_goto rfl ?_
            exact st_iret rfl rfl (Nat.le_refl _) (Nat.le_refl _) k
def w_X11_chosen_41 (SL : Nat) (xs : Nat → Int32) (d : Nat) (p s q : Nat) (Q : Option Value → mm_H → Prop) (v1 : Int32) (v2 : Int32) (v3 : Int64) (v5 : Int32) (v6 : Int32) (I : Nat → Nat → Int32) (J : Nat → Nat → Int64) : Prop := mm_w SL xs (mm_s SL xs (d + 2)) mm_am kX11_chosen 0 0 (some .int) Q 41 [some (.ref 65), some (.int v1), some (.int v2), some (.long v3), none, some (.int v5), some (.int v6), none] [] (hp p s q I J) 0 0
def w_X11_chosen_53 (SL : Nat) (xs : Nat → Int32) (d : Nat) (p s q : Nat) (Q : Option Value → mm_H → Prop) (v1 : Int32) (v2 : Int32) (v3 : Int64) (v5 : Int32) (v6 : Int32) (v7 : Int32) (I : Nat → Nat → Int32) (J : Nat → Nat → Int64) : Prop := mm_w SL xs (mm_s SL xs (d + 2)) mm_am kX11_chosen 0 0 (some .int) Q 53 [some (.ref 65), some (.int v1), some (.int v2), some (.long v3), none, some (.int v5), some (.int v6), some (.int v7)] [] (hp p s q I J) 0 0
theorem sg_X11_chosen {SL : Nat} {xs : Nat → Int32} {d : Nat} {p s q : Nat} {Q : Option Value → mm_H → Prop} {a0 : Int32} {a1 : Int32} {I : Nat → Nat → Int32} {J : Nat → Nat → Int64}  (k : (((sx_X11_isSmall a0) = Int32.ofInt 0 → Q (some (.int (Int32.ofInt (-1)))) (hp p s q I J)) ∧ (¬ ((sx_X11_isSmall a0) = Int32.ofInt 0) → ((a1 < Int32.ofInt 0 → Q (some (.int (Int32.ofInt (-1)))) (hp p s q I J)) ∧ (¬ (a1 < Int32.ofInt 0) → (((I 65 43) ≤ a1 → Q (some (.int (Int32.ofInt (-1)))) (hp p s q I J)) ∧ (¬ ((I 65 43) ≤ a1) → (((I 65 44) = Int32.ofInt 0 → Q (some (.int (Int32.ofInt (-1)))) (hp p s q I J)) ∧ (¬ ((I 65 44) = Int32.ofInt 0) → ((a1 < a0 → w_X11_chosen_41 SL xs d p s q Q a0 a1 (Int64.ofInt 0) (Int32.ofInt (-1)) (Int32.ofInt 0) I J) ∧ (¬ (a1 < a0) → Q (some (.int (Int32.ofInt (-1)))) (hp p s q I J)))))))))))) : mm_s SL xs (d + 3) 259 [.ref 65, .int a0, .int a1] (hp p s q I J) Q := by
  refine e_X11_chosen rfl ?_
  refine sp_iload_n 1 rfl rfl rfl ?_
  refine sc_S 4 rfl rfl rfl rfl (Nat.le_refl _) (Nat.le_refl _) rfl ?_
  refine cx_X11_isSmall ?_
  refine sp_if_eq 7 rfl rfl (fun q => ?_) (fun q => ?_)
  · have k := k.1 q
    refine sp_iconst 32 rfl rfl ?_
    exact st_iret rfl rfl (Nat.le_refl _) (Nat.le_refl _) k
  · have k := k.2 q
    refine sp_iload_n 8 rfl rfl rfl ?_
    refine sp_if_lt 11 rfl rfl (fun q => ?_) (fun q => ?_)
    · have k := k.1 q
      refine sp_iconst 32 rfl rfl ?_
      exact st_iret rfl rfl (Nat.le_refl _) (Nat.le_refl _) k
    · have k := k.2 q
      refine sp_iload_n 12 rfl rfl rfl ?_
      refine sp_aload_n 13 rfl rfl rfl ?_
      refine hq_getI 16 rfl rfl rfl ?_
      refine sp_ic_ge 19 rfl rfl (fun q => ?_) (fun q => ?_)
      · have k := k.1 q
        refine sp_iconst 32 rfl rfl ?_
        exact st_iret rfl rfl (Nat.le_refl _) (Nat.le_refl _) k
      · have k := k.2 q
        refine sp_aload_n 20 rfl rfl rfl ?_
        refine hq_getI 23 rfl rfl rfl ?_
        refine sp_if_eq 26 rfl rfl (fun q => ?_) (fun q => ?_)
        · have k := k.1 q
          refine sp_iconst 32 rfl rfl ?_
          exact st_iret rfl rfl (Nat.le_refl _) (Nat.le_refl _) k
        · have k := k.2 q
          refine sp_iload_n 27 rfl rfl rfl ?_
          refine sp_iload_n 28 rfl rfl rfl ?_
          refine sp_ic_lt 31 rfl rfl (fun q => ?_) (fun q => ?_)
          · have k := k.1 q
            refine sp_lconst 34 rfl rfl ?_
            refine sp_J (y := Int64.ofInt 0) rfl ?_
            refine sp_lstore_n 35 rfl rfl rfl ?_
            refine sp_iconst 36 rfl rfl ?_
            refine sp_istore 38 rfl rfl rfl ?_
            refine sp_iconst 39 rfl rfl ?_
            refine sp_istore 41 rfl rfl rfl ?_
            exact k
          · have k := k.2 q
            refine sp_iconst 32 rfl rfl ?_
            exact st_iret rfl rfl (Nat.le_refl _) (Nat.le_refl _) k
theorem sg_X11_chosen_41 {SL : Nat} {xs : Nat → Int32} {d : Nat} {p s q : Nat} {Q : Option Value → mm_H → Prop} {v1 : Int32} {v2 : Int32} {v3 : Int64} {v5 : Int32} {v6 : Int32} {I : Nat → Nat → Int32} {J : Nat → Nat → Int64}  (k : ((v2 < v6 → Q (some (.int v5)) (hp p s q I J)) ∧ (¬ (v2 < v6) → w_X11_chosen_53 SL xs d p s q Q v1 v2 v3 (Int32.ofInt (-1)) v6 (Int32.ofInt 0) I J))) : w_X11_chosen_41 SL xs d p s q Q v1 v2 v3 v5 v6 I J := by
  unfold w_X11_chosen_41
  refine sp_iload 43 rfl rfl rfl ?_
  refine sp_iload_n 44 rfl rfl rfl ?_
  refine sp_ic_gt 47 rfl rfl (fun q => ?_) (fun q => ?_)
  · have k := k.1 q
    refine sp_iload 117 rfl rfl rfl ?_
    exact st_iret rfl rfl (Nat.le_refl _) (Nat.le_refl _) k
  · have k := k.2 q
    refine sp_iconst 48 rfl rfl ?_
    refine sp_istore 50 rfl rfl rfl ?_
    refine sp_iconst 51 rfl rfl ?_
    refine sp_istore 53 rfl rfl rfl ?_
    exact k
theorem sg_X11_chosen_53 {SL : Nat} {xs : Nat → Int32} {d : Nat} {p s q : Nat} {Q : Option Value → mm_H → Prop} {v1 : Int32} {v2 : Int32} {v3 : Int64} {v5 : Int32} {v6 : Int32} {v7 : Int32} {I : Nat → Nat → Int32} {J : Nat → Nat → Int64}  (k : ((v1 ≤ v7 → w_X11_chosen_41 SL xs d p s q Q v1 v2 (v3 ||| ((Int64.ofInt 1) <<< ((v5).toInt64 &&& 63))) v5 (v6 + Int32.ofInt 1) I J) ∧ (¬ (v1 ≤ v7) → ((((v3 >>> ((v7).toInt64 &&& 63)) &&& (Int64.ofInt 1)) = (Int64.ofInt 0) → ((v5 < Int32.ofInt 0 → w_X11_chosen_53 SL xs d p s q Q v1 v2 v3 v7 v6 (v7 + Int32.ofInt 1) I J) ∧ (¬ (v5 < Int32.ofInt 0) → (mm_s SL xs (d + 2) 255 [.ref 65, .int v1, .int v7] (hp p s q I J) (fun r_ h_ => ∃ x1 I1 J1, r_ = some (.int x1) ∧ h_ = hp p s q I1 J1 ∧ (mm_s SL xs (d + 2) 255 [.ref 65, .int v1, .int v5] (hp p s q I1 J1) (fun r_ h_ => ∃ x2 I2 J2, r_ = some (.int x2) ∧ h_ = hp p s q I2 J2 ∧ ((x1 ≤ x2 → w_X11_chosen_53 SL xs d p s q Q v1 v2 v3 v5 v6 (v7 + Int32.ofInt 1) I2 J2) ∧ (¬ (x1 ≤ x2) → w_X11_chosen_53 SL xs d p s q Q v1 v2 v3 v7 v6 (v7 + Int32.ofInt 1) I2 J2))))))))) ∧ (¬ (((v3 >>> ((v7).toInt64 &&& 63)) &&& (Int64.ofInt 1)) = (Int64.ofInt 0)) → w_X11_chosen_53 SL xs d p s q Q v1 v2 v3 v5 v6 (v7 + Int32.ofInt 1) I J))))) : w_X11_chosen_53 SL xs d p s q Q v1 v2 v3 v5 v6 v7 I J := by
  unfold w_X11_chosen_53
  refine sp_iload 55 rfl rfl rfl ?_
  refine sp_iload_n 56 rfl rfl rfl ?_
  refine sp_ic_ge 59 rfl rfl (fun q => ?_) (fun q => ?_)
  · have k := k.1 q
    refine sp_lload_n 103 rfl rfl rfl ?_
    refine sp_lconst 104 rfl rfl ?_
    refine sp_J (y := Int64.ofInt 1) rfl ?_
    refine sp_iload 106 rfl rfl rfl ?_
    refine sp_lshl 107 rfl rfl ?_
    refine sp_lor 108 rfl rfl ?_
    refine sp_lstore_n 109 rfl rfl rfl ?_
    refine sp_iinc 112 rfl rfl rfl rfl ?_
    refine sp_goto rfl ?_
    refine st_wk (L1 := [some (.ref 65), some (.int v1), some (.int v2), some (.long (v3 ||| ((Int64.ofInt 1) <<< ((v5).toInt64 &&& 63)))), none, some (.int v5), some (.int (v6 + Int32.ofInt 1)), none]) ⟨.inr rfl, .inr rfl, .inr rfl, .inr rfl, .inl rfl, .inr rfl, .inr rfl, .inl rfl, trivial⟩ ?_
    exact k
  · have k := k.2 q
    refine sp_lload_n 60 rfl rfl rfl ?_
    refine sp_iload 62 rfl rfl rfl ?_
    refine sp_lshr 63 rfl rfl ?_
    refine sp_lconst 64 rfl rfl ?_
    refine sp_J (y := Int64.ofInt 1) rfl ?_
    refine sp_land 65 rfl rfl ?_
    refine sp_lconst 66 rfl rfl ?_
    refine sp_J (y := Int64.ofInt 0) rfl ?_
    refine sp_lcmp 67 rfl rfl ?_
    refine sp_if_ne 70 rfl rfl (fun q => ?_) (fun q => ?_)
    · have k := k.2 (fun z => q ((lg_cmp_eq _ _).mpr z))
      refine sp_iinc 99 rfl rfl rfl rfl ?_
      refine sp_goto rfl ?_
      exact k
    · have k := k.1 ((lg_cmp_eq _ _).mp q)
      refine sp_iload 72 rfl rfl rfl ?_
      refine sp_if_lt 75 rfl rfl (fun q => ?_) (fun q => ?_)
      · have k := k.1 q
        refine sp_iload 94 rfl rfl rfl ?_
        refine sp_istore 96 rfl rfl rfl ?_
        refine sp_iinc 99 rfl rfl rfl rfl ?_
        refine sp_goto rfl ?_
        exact k
      · have k := k.2 q
        refine sp_aload_n 76 rfl rfl rfl ?_
        refine sp_iload_n 77 rfl rfl rfl ?_
        refine sp_iload 79 rfl rfl rfl ?_
        refine sc_V 82 rfl rfl rfl rfl rfl (Nat.le_refl _) (Nat.le_refl _) rfl ?_
        refine mm_s_mono _ _ _ _ _ _ ?_ k
        rintro r_ h_ ⟨x1, I1, J1, rfl, rfl, k⟩
        refine sp_aload_n 83 rfl rfl rfl ?_
        refine sp_iload_n 84 rfl rfl rfl ?_
        refine sp_iload 86 rfl rfl rfl ?_
        refine sc_V 89 rfl rfl rfl rfl rfl (Nat.le_refl _) (Nat.le_refl _) rfl ?_
        refine mm_s_mono _ _ _ _ _ _ ?_ k
        rintro r_ h_ ⟨x2, I2, J2, rfl, rfl, k⟩
        refine sp_ic_le 92 rfl rfl (fun q => ?_) (fun q => ?_)
        · have k := k.1 q
          refine sp_iinc 99 rfl rfl rfl rfl ?_
          refine sp_goto rfl ?_
          exact k
        · have k := k.2 q
          refine sp_iload 94 rfl rfl rfl ?_
          refine sp_istore 96 rfl rfl rfl ?_
          refine sp_iinc 99 rfl rfl rfl rfl ?_
          refine sp_goto rfl ?_
          exact k
def w_X11_fits_19 (SL : Nat) (xs : Nat → Int32) (d : Nat) (p s q : Nat) (Q : Option Value → mm_H → Prop) (v1 : Int32) (v2 : Int32) (v3 : Int32) (v4 : Int32) (v5 : Int32) (I : Nat → Nat → Int32) (J : Nat → Nat → Int64) : Prop := mm_w SL xs (mm_s SL xs (d + 2)) mm_am kX11_fits 0 0 (some .int) Q 19 [some (.ref 65), some (.int v1), some (.int v2), some (.int v3), some (.int v4), some (.int v5)] [] (hp p s q I J) 0 0
theorem sg_X11_fits {SL : Nat} {xs : Nat → Int32} {d : Nat} {p s q : Nat} {Q : Option Value → mm_H → Prop} {a0 : Int32} {a1 : Int32} {I : Nat → Nat → Int32} {J : Nat → Nat → Int64}  (k : ((a0 < Int32.ofInt 0 → Q (some (.int (Int32.ofInt (-1)))) (hp p s q I J)) ∧ (¬ (a0 < Int32.ofInt 0) → ((a0 ≤ (Int32.ofInt 1) → w_X11_fits_19 SL xs d p s q Q a0 a1 (Int32.ofInt 0) (Int32.ofInt (-1)) (Int32.ofInt 1) I J) ∧ (¬ (a0 ≤ (Int32.ofInt 1)) → Q (some (.int (Int32.ofInt (-1)))) (hp p s q I J)))))) : mm_s SL xs (d + 3) 267 [.ref 65, .int a0, .int a1] (hp p s q I J) Q := by
  refine e_X11_fits rfl ?_
  refine sp_iload_n 1 rfl rfl rfl ?_
  refine sp_if_lt 4 rfl rfl (fun q => ?_) (fun q => ?_)
  · have k := k.1 q
    refine sp_iconst 10 rfl rfl ?_
    exact st_iret rfl rfl (Nat.le_refl _) (Nat.le_refl _) k
  · have k := k.2 q
    refine sp_iload_n 5 rfl rfl rfl ?_
    refine sp_iconst 6 rfl rfl ?_
    refine sp_ic_le 9 rfl rfl (fun q => ?_) (fun q => ?_)
    · have k := k.1 q
      refine sp_iconst 12 rfl rfl ?_
      refine sp_istore_n 13 rfl rfl rfl ?_
      refine sp_iconst 14 rfl rfl ?_
      refine sp_istore 16 rfl rfl rfl ?_
      refine sp_iconst 17 rfl rfl ?_
      refine sp_istore 19 rfl rfl rfl ?_
      exact k
    · have k := k.2 q
      refine sp_iconst 10 rfl rfl ?_
      exact st_iret rfl rfl (Nat.le_refl _) (Nat.le_refl _) k
theorem sg_X11_fits_19 {SL : Nat} {xs : Nat → Int32} {d : Nat} {p s q : Nat} {Q : Option Value → mm_H → Prop} {v1 : Int32} {v2 : Int32} {v3 : Int32} {v4 : Int32} {v5 : Int32} {I : Nat → Nat → Int32} {J : Nat → Nat → Int64}  (k : (((Int32.ofInt 200) < v5 → ((v1 = Int32.ofInt 0 → Q (some (.int v3)) (hp p s q I J)) ∧ (¬ (v1 = Int32.ofInt 0) → Q (some (.int v4)) (hp p s q I J)))) ∧ (¬ ((Int32.ofInt 200) < v5) → (mm_s SL xs (d + 2) 266 [.ref 65, .int v5, .int v2] (hp p s q I J) (fun r_ h_ => ∃ x1 I1 J1, r_ = some (.int x1) ∧ h_ = hp p s q I1 J1 ∧ ((x1 = Int32.ofInt 0 → w_X11_fits_19 SL xs d p s q Q v1 v2 v3 v4 (v5 + Int32.ofInt 1) I1 J1) ∧ (¬ (x1 = Int32.ofInt 0) → ((Int32.ofInt 0 ≤ v4 → w_X11_fits_19 SL xs d p s q Q v1 v2 (v3 + Int32.ofInt 1) v4 (v5 + Int32.ofInt 1) I1 J1) ∧ (¬ (Int32.ofInt 0 ≤ v4) → w_X11_fits_19 SL xs d p s q Q v1 v2 (v3 + Int32.ofInt 1) v5 (v5 + Int32.ofInt 1) I1 J1))))))))) : w_X11_fits_19 SL xs d p s q Q v1 v2 v3 v4 v5 I J := by
  unfold w_X11_fits_19
  refine sp_iload 21 rfl rfl rfl ?_
  refine sp_sipush 24 rfl rfl ?_
  refine sp_I (y := Int32.ofInt 200) rfl ?_
  refine sp_ic_gt 27 rfl rfl (fun q => ?_) (fun q => ?_)
  · have k := k.1 q
    refine sp_iload_n 64 rfl rfl rfl ?_
    refine sp_if_ne 67 rfl rfl (fun q => ?_) (fun q => ?_)
    · have k := k.2 q
      refine sp_iload 73 rfl rfl rfl ?_
      exact st_iret rfl rfl (Nat.le_refl _) (Nat.le_refl _) k
    · have k := k.1 q
      refine sp_iload_n 68 rfl rfl rfl ?_
      refine sp_goto rfl ?_
      exact st_iret rfl rfl (Nat.le_refl _) (Nat.le_refl _) k
  · have k := k.2 q
    refine sp_aload_n 28 rfl rfl rfl ?_
    refine sp_iload 30 rfl rfl rfl ?_
    refine sp_iload_n 31 rfl rfl rfl ?_
    refine sc_V 34 rfl rfl rfl rfl rfl (Nat.le_refl _) (Nat.le_refl _) rfl ?_
    refine mm_s_mono _ _ _ _ _ _ ?_ k
    rintro r_ h_ ⟨x1, I1, J1, rfl, rfl, k⟩
    refine sp_if_ne 37 rfl rfl (fun q => ?_) (fun q => ?_)
    · have k := k.2 q
      refine sp_iinc 43 rfl rfl rfl rfl ?_
      refine sp_iload 45 rfl rfl rfl ?_
      refine sp_if_ge 48 rfl rfl (fun q => ?_) (fun q => ?_)
      · have k := k.1 q
        refine sp_iload 55 rfl rfl rfl ?_
        refine sp_istore 57 rfl rfl rfl ?_
        refine sp_iinc 60 rfl rfl rfl rfl ?_
        refine sp_goto rfl ?_
        exact k
      · have k := k.2 q
        refine sp_iload 50 rfl rfl rfl ?_
        refine sp_goto rfl ?_
        refine sp_istore 57 rfl rfl rfl ?_
        refine sp_iinc 60 rfl rfl rfl rfl ?_
        refine sp_goto rfl ?_
        exact k
    · have k := k.1 q
      refine sp_goto rfl ?_
      refine sp_iinc 60 rfl rfl rfl rfl ?_
      refine sp_goto rfl ?_
      exact k
def w_X11_ask_24 (SL : Nat) (xs : Nat → Int32) (d : Nat) (p s q : Nat) (Q : Option Value → mm_H → Prop) (v1 : Int32) (v2 : Int32) (v3 : Int32) (v4 : Int32) (v5 : Int32) (I : Nat → Nat → Int32) (J : Nat → Nat → Int64) : Prop := mm_w SL xs (mm_s SL xs (d + 2)) mm_am kX11_ask 0 0 (some .int) Q 24 [some (.ref 65), some (.int v1), some (.int v2), some (.int v3), some (.int v4), some (.int v5), none, none, none] [] (hp p s q I J) 0 0
def w_X11_ask_90 (SL : Nat) (xs : Nat → Int32) (d : Nat) (p s q : Nat) (Q : Option Value → mm_H → Prop) (v1 : Int32) (v2 : Int32) (v3 : Int32) (v4 : Int32) (v5 : Int32) (v6 : Int32) (v7 : Int32) (I : Nat → Nat → Int32) (J : Nat → Nat → Int64) : Prop := mm_w SL xs (mm_s SL xs (d + 2)) mm_am kX11_ask 0 0 (some .int) Q 90 [some (.ref 65), some (.int v1), some (.int v2), some (.int v3), some (.int v4), some (.int v5), some (.int v6), some (.int v7), none] [] (hp p s q I J) 0 0
theorem sg_X11_ask {SL : Nat} {xs : Nat → Int32} {d : Nat} {p s q : Nat} {Q : Option Value → mm_H → Prop} {a0 : Int32} {a1 : Int32} {a2 : Int32} {I : Nat → Nat → Int32} {J : Nat → Nat → Int64}  (k : (((sx_X11_isSmall a0) = Int32.ofInt 0 → Q (some (.int (Int32.ofInt (-1)))) (hp p s q I J)) ∧ (¬ ((sx_X11_isSmall a0) = Int32.ofInt 0) → ((a1 < Int32.ofInt 0 → Q (some (.int (Int32.ofInt (-1)))) (hp p s q I J)) ∧ (¬ (a1 < Int32.ofInt 0) → ((a1 ≤ (Int32.ofInt 1) → w_X11_ask_24 SL xs d p s q Q a0 a1 a2 (Int32.ofInt 0) (Int32.ofInt 1) I J) ∧ (¬ (a1 ≤ (Int32.ofInt 1)) → Q (some (.int (Int32.ofInt (-1)))) (hp p s q I J)))))))) : mm_s SL xs (d + 3) 269 [.ref 65, .int a0, .int a1, .int a2] (hp p s q I J) Q := by
  refine e_X11_ask rfl ?_
  refine sp_iload_n 1 rfl rfl rfl ?_
  refine sc_S 4 rfl rfl rfl rfl (Nat.le_refl _) (Nat.le_refl _) rfl ?_
  refine cx_X11_isSmall ?_
  refine sp_if_eq 7 rfl rfl (fun q => ?_) (fun q => ?_)
  · have k := k.1 q
    refine sp_iconst 17 rfl rfl ?_
    exact st_iret rfl rfl (Nat.le_refl _) (Nat.le_refl _) k
  · have k := k.2 q
    refine sp_iload_n 8 rfl rfl rfl ?_
    refine sp_if_lt 11 rfl rfl (fun q => ?_) (fun q => ?_)
    · have k := k.1 q
      refine sp_iconst 17 rfl rfl ?_
      exact st_iret rfl rfl (Nat.le_refl _) (Nat.le_refl _) k
    · have k := k.2 q
      refine sp_iload_n 12 rfl rfl rfl ?_
      refine sp_iconst 13 rfl rfl ?_
      refine sp_ic_le 16 rfl rfl (fun q => ?_) (fun q => ?_)
      · have k := k.1 q
        refine sp_iconst 19 rfl rfl ?_
        refine sp_istore 21 rfl rfl rfl ?_
        refine sp_iconst 22 rfl rfl ?_
        refine sp_istore 24 rfl rfl rfl ?_
        exact k
      · have k := k.2 q
        refine sp_iconst 17 rfl rfl ?_
        exact st_iret rfl rfl (Nat.le_refl _) (Nat.le_refl _) k
theorem sg_X11_ask_24 {SL : Nat} {xs : Nat → Int32} {d : Nat} {p s q : Nat} {Q : Option Value → mm_H → Prop} {v1 : Int32} {v2 : Int32} {v3 : Int32} {v4 : Int32} {v5 : Int32} {I : Nat → Nat → Int32} {J : Nat → Nat → Int64}  (k : (((Int32.ofInt 200) < v5 → ((v4 = Int32.ofInt 0 → Q (some (.int (Int32.ofInt (-1)))) (hp p s q I J)) ∧ (¬ (v4 = Int32.ofInt 0) → w_X11_ask_90 SL xs d p s q Q v1 v2 v3 v4 (Int32.ofInt (-1)) (Int32.ofInt 0) (Int32.ofInt 1) I J))) ∧ (¬ ((Int32.ofInt 200) < v5) → (mm_s SL xs (d + 2) 266 [.ref 65, .int v5, .int v3] (hp p s q I J) (fun r_ h_ => ∃ x1 I1 J1, r_ = some (.int x1) ∧ h_ = hp p s q I1 J1 ∧ (vp_in v5 201 ∧ ((x1 = 0 ∨ x1 = 1) ∧ ((v4 = Int32.ofInt 0 → ((x1 = Int32.ofInt 0 → w_X11_ask_24 SL xs d p s q Q v1 v2 v3 (Int32.ofInt 0) (v5 + Int32.ofInt 1) (mm_u I1 105 ((v5).toNatClampNeg) x1) J1) ∧ (¬ (x1 = Int32.ofInt 0) → w_X11_ask_24 SL xs d p s q Q v1 v2 v3 (Int32.ofInt 1) (v5 + Int32.ofInt 1) (mm_u I1 105 ((v5).toNatClampNeg) x1) J1))) ∧ (¬ (v4 = Int32.ofInt 0) → w_X11_ask_24 SL xs d p s q Q v1 v2 v3 (Int32.ofInt 1) (v5 + Int32.ofInt 1) (mm_u I1 105 ((v5).toNatClampNeg) x1) J1))))))))) : w_X11_ask_24 SL xs d p s q Q v1 v2 v3 v4 v5 I J := by
  unfold w_X11_ask_24
  refine sp_iload 26 rfl rfl rfl ?_
  refine sp_sipush 29 rfl rfl ?_
  refine sp_I (y := Int32.ofInt 200) rfl ?_
  refine sp_ic_gt 32 rfl rfl (fun q => ?_) (fun q => ?_)
  · have k := k.1 q
    refine sp_iload 76 rfl rfl rfl ?_
    refine sp_if_ne 79 rfl rfl (fun q => ?_) (fun q => ?_)
    · have k := k.2 q
      refine sp_iconst 82 rfl rfl ?_
      refine sp_istore 84 rfl rfl rfl ?_
      refine sp_iconst 85 rfl rfl ?_
      refine sp_istore 87 rfl rfl rfl ?_
      refine sp_iconst 88 rfl rfl ?_
      refine sp_istore 90 rfl rfl rfl ?_
      exact k
    · have k := k.1 q
      refine sp_iconst 80 rfl rfl ?_
      exact st_iret rfl rfl (Nat.le_refl _) (Nat.le_refl _) k
  · have k := k.2 q
    refine sp_aload_n 33 rfl rfl rfl ?_
    refine hq_getR 36 rfl rfl rfl rfl ?_
    refine sp_iload 38 rfl rfl rfl ?_
    refine sp_aload_n 39 rfl rfl rfl ?_
    refine sp_iload 41 rfl rfl rfl ?_
    refine sp_iload_n 42 rfl rfl rfl ?_
    refine sc_V 45 rfl rfl rfl rfl rfl (Nat.le_refl _) (Nat.le_refl _) rfl ?_
    refine mm_s_mono _ _ _ _ _ _ ?_ k
    rintro r_ h_ ⟨x1, I1, J1, rfl, rfl, k⟩
    have n1_ := k.1
    have k := k.2
    refine hq_zast 46 rfl rfl n1_ k.1 rfl ?_
    have k := k.2
    refine sp_iload 48 rfl rfl rfl ?_
    refine sp_if_ne 51 rfl rfl (fun q => ?_) (fun q => ?_)
    · have k := k.2 q
      refine sp_iconst 62 rfl rfl ?_
      refine sp_goto rfl ?_
      refine sp_istore 68 rfl rfl rfl ?_
      refine sp_iinc 71 rfl rfl rfl rfl ?_
      refine sp_goto rfl ?_
      exact k
    · have k := k.1 q
      refine sp_aload_n 52 rfl rfl rfl ?_
      refine hq_getR 55 rfl rfl rfl rfl ?_
      refine sp_iload 57 rfl rfl rfl ?_
      refine hq_zald 58 rfl rfl n1_ rfl ?_
      refine sp_I (y := x1) (by simp [mm_u]) ?_
      refine sp_if_eq 61 rfl rfl (fun q => ?_) (fun q => ?_)
      · have k := k.1 q
        refine sp_iconst 66 rfl rfl ?_
        refine sp_istore 68 rfl rfl rfl ?_
        refine sp_iinc 71 rfl rfl rfl rfl ?_
        refine sp_goto rfl ?_
        exact k
      · have k := k.2 q
        refine sp_iconst 62 rfl rfl ?_
        refine sp_goto rfl ?_
        refine sp_istore 68 rfl rfl rfl ?_
        refine sp_iinc 71 rfl rfl rfl rfl ?_
        refine sp_goto rfl ?_
        exact k
theorem sg_X11_ask_90 {SL : Nat} {xs : Nat → Int32} {d : Nat} {p s q : Nat} {Q : Option Value → mm_H → Prop} {v1 : Int32} {v2 : Int32} {v3 : Int32} {v4 : Int32} {v5 : Int32} {v6 : Int32} {v7 : Int32} {I : Nat → Nat → Int32} {J : Nat → Nat → Int64}  (k : ((v1 < v7 → ((v2 = Int32.ofInt 0 → Q (some (.int v5)) (hp p s q I J)) ∧ (¬ (v2 = Int32.ofInt 0) → Q (some (.int v6)) (hp p s q I J)))) ∧ (¬ (v1 < v7) → (mm_s SL xs (d + 2) 268 [.ref 65, .int v1, .int v7] (hp p s q I J) (fun r_ h_ => ∃ x1 I1 J1, r_ = some (.int x1) ∧ h_ = hp p s q I1 J1 ∧ ((v5 < Int32.ofInt 0 → w_X11_ask_90 SL xs d p s q Q v1 v2 v3 v4 v7 x1 (v7 + Int32.ofInt 1) I1 J1) ∧ (¬ (v5 < Int32.ofInt 0) → ((x1 < v6 → w_X11_ask_90 SL xs d p s q Q v1 v2 v3 v4 v7 x1 (v7 + Int32.ofInt 1) I1 J1) ∧ (¬ (x1 < v6) → w_X11_ask_90 SL xs d p s q Q v1 v2 v3 v4 v5 v6 (v7 + Int32.ofInt 1) I1 J1))))))))) : w_X11_ask_90 SL xs d p s q Q v1 v2 v3 v4 v5 v6 v7 I J := by
  unfold w_X11_ask_90
  refine sp_iload 92 rfl rfl rfl ?_
  refine sp_iload_n 93 rfl rfl rfl ?_
  refine sp_ic_gt 96 rfl rfl (fun q => ?_) (fun q => ?_)
  · have k := k.1 q
    refine sp_iload_n 135 rfl rfl rfl ?_
    refine sp_if_ne 138 rfl rfl (fun q => ?_) (fun q => ?_)
    · have k := k.2 q
      refine sp_iload 145 rfl rfl rfl ?_
      exact st_iret rfl rfl (Nat.le_refl _) (Nat.le_refl _) k
    · have k := k.1 q
      refine sp_iload 140 rfl rfl rfl ?_
      refine sp_goto rfl ?_
      exact st_iret rfl rfl (Nat.le_refl _) (Nat.le_refl _) k
  · have k := k.2 q
    refine sp_aload_n 97 rfl rfl rfl ?_
    refine sp_iload_n 98 rfl rfl rfl ?_
    refine sp_iload 100 rfl rfl rfl ?_
    refine sc_V 103 rfl rfl rfl rfl rfl (Nat.le_refl _) (Nat.le_refl _) rfl ?_
    refine mm_s_mono _ _ _ _ _ _ ?_ k
    rintro r_ h_ ⟨x1, I1, J1, rfl, rfl, k⟩
    refine sp_istore 105 rfl rfl rfl ?_
    refine sp_iload 107 rfl rfl rfl ?_
    refine sp_if_lt 110 rfl rfl (fun q => ?_) (fun q => ?_)
    · have k := k.1 q
      refine sp_iload 122 rfl rfl rfl ?_
      refine sp_istore 124 rfl rfl rfl ?_
      refine sp_iload 126 rfl rfl rfl ?_
      refine sp_istore 128 rfl rfl rfl ?_
      refine sp_iinc 131 rfl rfl rfl rfl ?_
      refine sp_goto rfl ?_
      refine st_wk (L1 := [some (.ref 65), some (.int v1), some (.int v2), some (.int v3), some (.int v4), some (.int v7), some (.int x1), some (.int (v7 + Int32.ofInt 1)), none]) ⟨.inr rfl, .inr rfl, .inr rfl, .inr rfl, .inr rfl, .inr rfl, .inr rfl, .inr rfl, .inl rfl, trivial⟩ ?_
      exact k
    · have k := k.2 q
      refine sp_iload 112 rfl rfl rfl ?_
      refine sp_iload 114 rfl rfl rfl ?_
      refine sp_ic_lt 117 rfl rfl (fun q => ?_) (fun q => ?_)
      · have k := k.1 q
        refine sp_iload 122 rfl rfl rfl ?_
        refine sp_istore 124 rfl rfl rfl ?_
        refine sp_iload 126 rfl rfl rfl ?_
        refine sp_istore 128 rfl rfl rfl ?_
        refine sp_iinc 131 rfl rfl rfl rfl ?_
        refine sp_goto rfl ?_
        refine st_wk (L1 := [some (.ref 65), some (.int v1), some (.int v2), some (.int v3), some (.int v4), some (.int v7), some (.int x1), some (.int (v7 + Int32.ofInt 1)), none]) ⟨.inr rfl, .inr rfl, .inr rfl, .inr rfl, .inr rfl, .inr rfl, .inr rfl, .inr rfl, .inl rfl, trivial⟩ ?_
        exact k
      · have k := k.2 q
        refine sp_goto rfl ?_
        refine sp_iinc 131 rfl rfl rfl rfl ?_
        refine sp_goto rfl ?_
        refine st_wk (L1 := [some (.ref 65), some (.int v1), some (.int v2), some (.int v3), some (.int v4), some (.int v5), some (.int v6), some (.int (v7 + Int32.ofInt 1)), none]) ⟨.inr rfl, .inr rfl, .inr rfl, .inr rfl, .inr rfl, .inr rfl, .inr rfl, .inr rfl, .inl rfl, trivial⟩ ?_
        exact k
theorem sg_X11_told {SL : Nat} {xs : Nat → Int32} {d : Nat} {p s q : Nat} {Q : Option Value → mm_H → Prop} {a0 : Int64} {a1 : Int32} {a2 : Int32} {I : Nat → Nat → Int32} {J : Nat → Nat → Int64}  (k : (mm_s SL xs (d + 3) 176 [.ref 65, .long a0] (hp p s q I J) (fun r_ h_ => ∃ I1 J1, r_ = none ∧ h_ = hp p s q I1 J1 ∧ (mm_s SL xs (d + 3) 177 [.ref 65, .int a1, .int a2] (hp p s q I1 J1) (fun r_ h_ => ∃ x2 I2 J2, r_ = some (.int x2) ∧ h_ = hp p s q I2 J2 ∧ Q (some (.int x2)) (hp p s q I2 J2)))))) : mm_s SL xs (d + 4) 178 [.ref 65, .long a0, .int a1, .int a2] (hp p s q I J) Q := by
  refine e_X11_told rfl ?_
  refine sp_aload_n 1 rfl rfl rfl ?_
  refine sp_lload_n 2 rfl rfl rfl ?_
  refine sc_V 5 rfl rfl rfl rfl rfl (Nat.le_refl _) (Nat.le_refl _) rfl ?_
  refine mm_s_mono _ _ _ _ _ _ ?_ k
  rintro r_ h_ ⟨I1, J1, rfl, rfl, k⟩
  refine sp_aload_n 6 rfl rfl rfl ?_
  refine sp_iload_n 7 rfl rfl rfl ?_
  refine sp_iload 9 rfl rfl rfl ?_
  refine sc_V 12 rfl rfl rfl rfl rfl (Nat.le_refl _) (Nat.le_refl _) rfl ?_
  refine mm_s_mono _ _ _ _ _ _ ?_ k
  rintro r_ h_ ⟨x2, I2, J2, rfl, rfl, k⟩
  exact st_iret rfl rfl (Nat.le_refl _) (Nat.le_refl _) k
theorem sg_X11_sign {SL : Nat} {xs : Nat → Int32} {d : Nat} {p s q : Nat} {Q : Option Value → mm_H → Prop}  {I : Nat → Nat → Int32} {J : Nat → Nat → Int64}  (k : (((I 65 6) = (Int32.ofInt 41) → (mm_s SL xs (d + 3) 185 [.ref 65] (hp p s q I J) (fun r_ h_ => ∃ x12 I12 J12, r_ = some (.int x12) ∧ h_ = hp p s q I12 J12 ∧ ((x12 = Int32.ofInt 0 → ((Int32.ofInt 0 ≤ (sy_X11_signOf  I J) → (((sx_X11_rank (sy_X11_signOf  I J)) = (Int32.ofInt 23) → (mm_s SL xs (d + 3) 184 [.ref 65, .int (Int32.ofInt 26)] (hp p s q I12 J12) (fun r_ h_ => ∃ I16 J16, r_ = none ∧ h_ = hp p s q I16 J16 ∧ (mm_s SL xs (d + 3) 180 [.ref 65] (hp p s q I16 J16) (fun r_ h_ => ∃ x17 I17 J17, r_ = some (.int x17) ∧ h_ = hp p s q I17 J17 ∧ (((sx_X11_rank x17) = (Int32.ofInt 23) → (mm_s SL xs (d + 3) 173 [.ref 65, .int (Int32.ofInt 2)] (hp p s q I17 J17) (fun r_ h_ => ∃ I20 J20, r_ = none ∧ h_ = hp p s q I20 J20 ∧ (((I20 65 2) ≤ Int32.ofInt 0 → (mm_s SL xs (d + 3) 181 [.ref 65, .int (sy_X11_signOf  I J)] (hp p s q I20 J20) (fun r_ h_ => ∃ I21 J21, r_ = none ∧ h_ = hp p s q I21 J21 ∧ (mm_s SL xs (d + 3) 172 [.ref 65] (hp p s q I21 J21) (fun r_ h_ => ∃ I22 J22, r_ = none ∧ h_ = hp p s q I22 J22 ∧ (((sy_X11_signOf  I J) = (Int32.ofInt 21) → Q (some (.int (Int32.ofInt 0))) (hp p s q I22 J22)) ∧ (¬ ((sy_X11_signOf  I J) = (Int32.ofInt 21)) → (((sy_X11_signOf  I J) = (Int32.ofInt 20) → Q (some (.int (Int32.ofInt 0))) (hp p s q I22 J22)) ∧ (¬ ((sy_X11_signOf  I J) = (Int32.ofInt 20)) → Q (some (.int (Int32.ofInt 1))) (hp p s q I22 J22)))))))))) ∧ (¬ ((I20 65 2) ≤ Int32.ofInt 0) → Q (some (.int (Int32.ofInt 2))) (hp p s q I20 J20)))))) ∧ (¬ ((sx_X11_rank x17) = (Int32.ofInt 23)) → (((I17 65 2) ≤ Int32.ofInt 0 → (mm_s SL xs (d + 3) 181 [.ref 65, .int (sy_X11_signOf  I J)] (hp p s q I17 J17) (fun r_ h_ => ∃ I18 J18, r_ = none ∧ h_ = hp p s q I18 J18 ∧ (mm_s SL xs (d + 3) 172 [.ref 65] (hp p s q I18 J18) (fun r_ h_ => ∃ I19 J19, r_ = none ∧ h_ = hp p s q I19 J19 ∧ (((sy_X11_signOf  I J) = (Int32.ofInt 21) → Q (some (.int (Int32.ofInt 0))) (hp p s q I19 J19)) ∧ (¬ ((sy_X11_signOf  I J) = (Int32.ofInt 21)) → (((sy_X11_signOf  I J) = (Int32.ofInt 20) → Q (some (.int (Int32.ofInt 0))) (hp p s q I19 J19)) ∧ (¬ ((sy_X11_signOf  I J) = (Int32.ofInt 20)) → Q (some (.int (Int32.ofInt 1))) (hp p s q I19 J19)))))))))) ∧ (¬ ((I17 65 2) ≤ Int32.ofInt 0) → Q (some (.int (Int32.ofInt 2))) (hp p s q I17 J17)))))))))) ∧ (¬ ((sx_X11_rank (sy_X11_signOf  I J)) = (Int32.ofInt 23)) → (mm_s SL xs (d + 3) 184 [.ref 65, .int (sx_X11_rank (sy_X11_signOf  I J))] (hp p s q I12 J12) (fun r_ h_ => ∃ I13 J13, r_ = none ∧ h_ = hp p s q I13 J13 ∧ (((I13 65 2) ≤ Int32.ofInt 0 → (mm_s SL xs (d + 3) 181 [.ref 65, .int (sy_X11_signOf  I J)] (hp p s q I13 J13) (fun r_ h_ => ∃ I14 J14, r_ = none ∧ h_ = hp p s q I14 J14 ∧ (mm_s SL xs (d + 3) 172 [.ref 65] (hp p s q I14 J14) (fun r_ h_ => ∃ I15 J15, r_ = none ∧ h_ = hp p s q I15 J15 ∧ (((sy_X11_signOf  I J) = (Int32.ofInt 21) → Q (some (.int (Int32.ofInt 0))) (hp p s q I15 J15)) ∧ (¬ ((sy_X11_signOf  I J) = (Int32.ofInt 21)) → (((sy_X11_signOf  I J) = (Int32.ofInt 20) → Q (some (.int (Int32.ofInt 0))) (hp p s q I15 J15)) ∧ (¬ ((sy_X11_signOf  I J) = (Int32.ofInt 20)) → Q (some (.int (Int32.ofInt 1))) (hp p s q I15 J15)))))))))) ∧ (¬ ((I13 65 2) ≤ Int32.ofInt 0) → Q (some (.int (Int32.ofInt 2))) (hp p s q I13 J13)))))))) ∧ (¬ (Int32.ofInt 0 ≤ (sy_X11_signOf  I J)) → (mm_s SL xs (d + 3) 173 [.ref 65, .int (Int32.ofInt 2)] (hp p s q I12 J12) (fun r_ h_ => ∃ I23 J23, r_ = none ∧ h_ = hp p s q I23 J23 ∧ Q (some (.int (Int32.ofInt 2))) (hp p s q I23 J23)))))) ∧ (¬ (x12 = Int32.ofInt 0) → (mm_s SL xs (d + 3) 184 [.ref 65, .int (Int32.ofInt 0)] (hp p s q I12 J12) (fun r_ h_ => ∃ I24 J24, r_ = none ∧ h_ = hp p s q I24 J24 ∧ (mm_s SL xs (d + 3) 172 [.ref 65] (hp p s q (mm_u (mm_u I24 65 22 ((I24 65 22) - (Int32.ofInt 1))) 65 23 ((I24 65 23) - (Int32.ofInt 1))) J24) (fun r_ h_ => ∃ I25 J25, r_ = none ∧ h_ = hp p s q I25 J25 ∧ Q (some (.int (Int32.ofInt 2))) (hp p s q I25 J25)))))))))) ∧ (¬ ((I 65 6) = (Int32.ofInt 41)) → ((Int32.ofInt 0 ≤ (sy_X11_signOf  I J) → (((sx_X11_rank (sy_X11_signOf  I J)) = (Int32.ofInt 23) → (mm_s SL xs (d + 3) 184 [.ref 65, .int (Int32.ofInt 26)] (hp p s q I J) (fun r_ h_ => ∃ I4 J4, r_ = none ∧ h_ = hp p s q I4 J4 ∧ (mm_s SL xs (d + 3) 180 [.ref 65] (hp p s q I4 J4) (fun r_ h_ => ∃ x5 I5 J5, r_ = some (.int x5) ∧ h_ = hp p s q I5 J5 ∧ (((sx_X11_rank x5) = (Int32.ofInt 23) → (mm_s SL xs (d + 3) 173 [.ref 65, .int (Int32.ofInt 2)] (hp p s q I5 J5) (fun r_ h_ => ∃ I8 J8, r_ = none ∧ h_ = hp p s q I8 J8 ∧ (((I8 65 2) ≤ Int32.ofInt 0 → (mm_s SL xs (d + 3) 181 [.ref 65, .int (sy_X11_signOf  I J)] (hp p s q I8 J8) (fun r_ h_ => ∃ I9 J9, r_ = none ∧ h_ = hp p s q I9 J9 ∧ (mm_s SL xs (d + 3) 172 [.ref 65] (hp p s q I9 J9) (fun r_ h_ => ∃ I10 J10, r_ = none ∧ h_ = hp p s q I10 J10 ∧ (((sy_X11_signOf  I J) = (Int32.ofInt 21) → Q (some (.int (Int32.ofInt 0))) (hp p s q I10 J10)) ∧ (¬ ((sy_X11_signOf  I J) = (Int32.ofInt 21)) → (((sy_X11_signOf  I J) = (Int32.ofInt 20) → Q (some (.int (Int32.ofInt 0))) (hp p s q I10 J10)) ∧ (¬ ((sy_X11_signOf  I J) = (Int32.ofInt 20)) → Q (some (.int (Int32.ofInt 1))) (hp p s q I10 J10)))))))))) ∧ (¬ ((I8 65 2) ≤ Int32.ofInt 0) → Q (some (.int (Int32.ofInt 2))) (hp p s q I8 J8)))))) ∧ (¬ ((sx_X11_rank x5) = (Int32.ofInt 23)) → (((I5 65 2) ≤ Int32.ofInt 0 → (mm_s SL xs (d + 3) 181 [.ref 65, .int (sy_X11_signOf  I J)] (hp p s q I5 J5) (fun r_ h_ => ∃ I6 J6, r_ = none ∧ h_ = hp p s q I6 J6 ∧ (mm_s SL xs (d + 3) 172 [.ref 65] (hp p s q I6 J6) (fun r_ h_ => ∃ I7 J7, r_ = none ∧ h_ = hp p s q I7 J7 ∧ (((sy_X11_signOf  I J) = (Int32.ofInt 21) → Q (some (.int (Int32.ofInt 0))) (hp p s q I7 J7)) ∧ (¬ ((sy_X11_signOf  I J) = (Int32.ofInt 21)) → (((sy_X11_signOf  I J) = (Int32.ofInt 20) → Q (some (.int (Int32.ofInt 0))) (hp p s q I7 J7)) ∧ (¬ ((sy_X11_signOf  I J) = (Int32.ofInt 20)) → Q (some (.int (Int32.ofInt 1))) (hp p s q I7 J7)))))))))) ∧ (¬ ((I5 65 2) ≤ Int32.ofInt 0) → Q (some (.int (Int32.ofInt 2))) (hp p s q I5 J5)))))))))) ∧ (¬ ((sx_X11_rank (sy_X11_signOf  I J)) = (Int32.ofInt 23)) → (mm_s SL xs (d + 3) 184 [.ref 65, .int (sx_X11_rank (sy_X11_signOf  I J))] (hp p s q I J) (fun r_ h_ => ∃ I1 J1, r_ = none ∧ h_ = hp p s q I1 J1 ∧ (((I1 65 2) ≤ Int32.ofInt 0 → (mm_s SL xs (d + 3) 181 [.ref 65, .int (sy_X11_signOf  I J)] (hp p s q I1 J1) (fun r_ h_ => ∃ I2 J2, r_ = none ∧ h_ = hp p s q I2 J2 ∧ (mm_s SL xs (d + 3) 172 [.ref 65] (hp p s q I2 J2) (fun r_ h_ => ∃ I3 J3, r_ = none ∧ h_ = hp p s q I3 J3 ∧ (((sy_X11_signOf  I J) = (Int32.ofInt 21) → Q (some (.int (Int32.ofInt 0))) (hp p s q I3 J3)) ∧ (¬ ((sy_X11_signOf  I J) = (Int32.ofInt 21)) → (((sy_X11_signOf  I J) = (Int32.ofInt 20) → Q (some (.int (Int32.ofInt 0))) (hp p s q I3 J3)) ∧ (¬ ((sy_X11_signOf  I J) = (Int32.ofInt 20)) → Q (some (.int (Int32.ofInt 1))) (hp p s q I3 J3)))))))))) ∧ (¬ ((I1 65 2) ≤ Int32.ofInt 0) → Q (some (.int (Int32.ofInt 2))) (hp p s q I1 J1)))))))) ∧ (¬ (Int32.ofInt 0 ≤ (sy_X11_signOf  I J)) → (mm_s SL xs (d + 3) 173 [.ref 65, .int (Int32.ofInt 2)] (hp p s q I J) (fun r_ h_ => ∃ I11 J11, r_ = none ∧ h_ = hp p s q I11 J11 ∧ Q (some (.int (Int32.ofInt 2))) (hp p s q I11 J11)))))))) : mm_s SL xs (d + 4) 189 [.ref 65] (hp p s q I J) Q := by
  refine e_X11_sign rfl ?_
  refine sp_aload_n 1 rfl rfl rfl ?_
  refine sc_V 4 rfl rfl rfl rfl rfl (Nat.le_refl _) (Nat.le_refl _) rfl ?_
  refine cy_X11_signOf ?_
  refine sp_istore_n 5 rfl rfl rfl ?_
  refine sp_aload_n 6 rfl rfl rfl ?_
  refine hq_getI 9 rfl rfl rfl ?_
  refine sp_bipush 11 rfl rfl ?_
  refine sp_I (y := Int32.ofInt 41) rfl ?_
  refine sp_ic_ne 14 rfl rfl (fun q => ?_) (fun q => ?_)
  · have k := k.2 q
    refine sp_iload_n 53 rfl rfl rfl ?_
    refine sp_if_ge 56 rfl rfl (fun q => ?_) (fun q => ?_)
    · have k := k.1 q
      refine sp_iload_n 64 rfl rfl rfl ?_
      refine sc_S 67 rfl rfl rfl rfl (Nat.le_refl _) (Nat.le_refl _) rfl ?_
      refine cx_X11_rank ?_
      refine sp_bipush 69 rfl rfl ?_
      refine sp_I (y := Int32.ofInt 23) rfl ?_
      refine sp_ic_ne 72 rfl rfl (fun q => ?_) (fun q => ?_)
      · have k := k.2 q
        refine sp_aload_n 99 rfl rfl rfl ?_
        refine sp_iload_n 100 rfl rfl rfl ?_
        refine sc_S 103 rfl rfl rfl rfl (Nat.le_refl _) (Nat.le_refl _) rfl ?_
        refine cx_X11_rank ?_
        refine sc_V 106 rfl rfl rfl rfl rfl (Nat.le_refl _) (Nat.le_refl _) rfl ?_
        refine mm_s_mono _ _ _ _ _ _ ?_ k
        rintro r_ h_ ⟨I1, J1, rfl, rfl, k⟩
        refine sp_aload_n 107 rfl rfl rfl ?_
        refine hq_getI 110 rfl rfl rfl ?_
        refine sp_if_le 113 rfl rfl (fun q => ?_) (fun q => ?_)
        · have k := k.1 q
          refine sp_aload_n 116 rfl rfl rfl ?_
          refine sp_iload_n 117 rfl rfl rfl ?_
          refine sc_V 120 rfl rfl rfl rfl rfl (Nat.le_refl _) (Nat.le_refl _) rfl ?_
          refine mm_s_mono _ _ _ _ _ _ ?_ k
          rintro r_ h_ ⟨I2, J2, rfl, rfl, k⟩
          refine sp_aload_n 121 rfl rfl rfl ?_
          refine sc_V 124 rfl rfl rfl rfl rfl (Nat.le_refl _) (Nat.le_refl _) rfl ?_
          refine mm_s_mono _ _ _ _ _ _ ?_ k
          rintro r_ h_ ⟨I3, J3, rfl, rfl, k⟩
          refine sp_iload_n 125 rfl rfl rfl ?_
          refine sp_bipush 127 rfl rfl ?_
          refine sp_I (y := Int32.ofInt 21) rfl ?_
          refine sp_ic_eq 130 rfl rfl (fun q => ?_) (fun q => ?_)
          · have k := k.1 q
            refine sp_iconst 137 rfl rfl ?_
            refine sp_goto rfl ?_
            exact st_iret rfl rfl (Nat.le_refl _) (Nat.le_refl _) k
          · have k := k.2 q
            refine sp_iload_n 131 rfl rfl rfl ?_
            refine sp_bipush 133 rfl rfl ?_
            refine sp_I (y := Int32.ofInt 20) rfl ?_
            refine sp_ic_ne 136 rfl rfl (fun q => ?_) (fun q => ?_)
            · have k := k.2 q
              refine sp_iconst 141 rfl rfl ?_
              exact st_iret rfl rfl (Nat.le_refl _) (Nat.le_refl _) k
            · have k := k.1 q
              refine sp_iconst 137 rfl rfl ?_
              refine sp_goto rfl ?_
              exact st_iret rfl rfl (Nat.le_refl _) (Nat.le_refl _) k
        · have k := k.2 q
          refine sp_iconst 114 rfl rfl ?_
          exact st_iret rfl rfl (Nat.le_refl _) (Nat.le_refl _) k
      · have k := k.1 q
        refine sp_aload_n 73 rfl rfl rfl ?_
        refine sp_bipush 75 rfl rfl ?_
        refine sp_I (y := Int32.ofInt 26) rfl ?_
        refine sc_V 78 rfl rfl rfl rfl rfl (Nat.le_refl _) (Nat.le_refl _) rfl ?_
        refine mm_s_mono _ _ _ _ _ _ ?_ k
        rintro r_ h_ ⟨I4, J4, rfl, rfl, k⟩
        refine sp_aload_n 79 rfl rfl rfl ?_
        refine sc_V 82 rfl rfl rfl rfl rfl (Nat.le_refl _) (Nat.le_refl _) rfl ?_
        refine mm_s_mono _ _ _ _ _ _ ?_ k
        rintro r_ h_ ⟨x5, I5, J5, rfl, rfl, k⟩
        refine sc_S 85 rfl rfl rfl rfl (Nat.le_refl _) (Nat.le_refl _) rfl ?_
        refine cx_X11_rank ?_
        refine sp_bipush 87 rfl rfl ?_
        refine sp_I (y := Int32.ofInt 23) rfl ?_
        refine sp_ic_ne 90 rfl rfl (fun q => ?_) (fun q => ?_)
        · have k := k.2 q
          refine sp_aload_n 107 rfl rfl rfl ?_
          refine hq_getI 110 rfl rfl rfl ?_
          refine sp_if_le 113 rfl rfl (fun q => ?_) (fun q => ?_)
          · have k := k.1 q
            refine sp_aload_n 116 rfl rfl rfl ?_
            refine sp_iload_n 117 rfl rfl rfl ?_
            refine sc_V 120 rfl rfl rfl rfl rfl (Nat.le_refl _) (Nat.le_refl _) rfl ?_
            refine mm_s_mono _ _ _ _ _ _ ?_ k
            rintro r_ h_ ⟨I6, J6, rfl, rfl, k⟩
            refine sp_aload_n 121 rfl rfl rfl ?_
            refine sc_V 124 rfl rfl rfl rfl rfl (Nat.le_refl _) (Nat.le_refl _) rfl ?_
            refine mm_s_mono _ _ _ _ _ _ ?_ k
            rintro r_ h_ ⟨I7, J7, rfl, rfl, k⟩
            refine sp_iload_n 125 rfl rfl rfl ?_
            refine sp_bipush 127 rfl rfl ?_
            refine sp_I (y := Int32.ofInt 21) rfl ?_
            refine sp_ic_eq 130 rfl rfl (fun q => ?_) (fun q => ?_)
            · have k := k.1 q
              refine sp_iconst 137 rfl rfl ?_
              refine sp_goto rfl ?_
              exact st_iret rfl rfl (Nat.le_refl _) (Nat.le_refl _) k
            · have k := k.2 q
              refine sp_iload_n 131 rfl rfl rfl ?_
              refine sp_bipush 133 rfl rfl ?_
              refine sp_I (y := Int32.ofInt 20) rfl ?_
              refine sp_ic_ne 136 rfl rfl (fun q => ?_) (fun q => ?_)
              · have k := k.2 q
                refine sp_iconst 141 rfl rfl ?_
                exact st_iret rfl rfl (Nat.le_refl _) (Nat.le_refl _) k
              · have k := k.1 q
                refine sp_iconst 137 rfl rfl ?_
                refine sp_goto rfl ?_
                exact st_iret rfl rfl (Nat.le_refl _) (Nat.le_refl _) k
          · have k := k.2 q
            refine sp_iconst 114 rfl rfl ?_
            exact st_iret rfl rfl (Nat.le_refl _) (Nat.le_refl _) k
        · have k := k.1 q
          refine sp_aload_n 91 rfl rfl rfl ?_
          refine sp_iconst 92 rfl rfl ?_
          refine sc_V 95 rfl rfl rfl rfl rfl (Nat.le_refl _) (Nat.le_refl _) rfl ?_
          refine mm_s_mono _ _ _ _ _ _ ?_ k
          rintro r_ h_ ⟨I8, J8, rfl, rfl, k⟩
          refine sp_goto rfl ?_
          refine sp_aload_n 107 rfl rfl rfl ?_
          refine hq_getI 110 rfl rfl rfl ?_
          refine sp_if_le 113 rfl rfl (fun q => ?_) (fun q => ?_)
          · have k := k.1 q
            refine sp_aload_n 116 rfl rfl rfl ?_
            refine sp_iload_n 117 rfl rfl rfl ?_
            refine sc_V 120 rfl rfl rfl rfl rfl (Nat.le_refl _) (Nat.le_refl _) rfl ?_
            refine mm_s_mono _ _ _ _ _ _ ?_ k
            rintro r_ h_ ⟨I9, J9, rfl, rfl, k⟩
            refine sp_aload_n 121 rfl rfl rfl ?_
            refine sc_V 124 rfl rfl rfl rfl rfl (Nat.le_refl _) (Nat.le_refl _) rfl ?_
            refine mm_s_mono _ _ _ _ _ _ ?_ k
            rintro r_ h_ ⟨I10, J10, rfl, rfl, k⟩
            refine sp_iload_n 125 rfl rfl rfl ?_
            refine sp_bipush 127 rfl rfl ?_
            refine sp_I (y := Int32.ofInt 21) rfl ?_
            refine sp_ic_eq 130 rfl rfl (fun q => ?_) (fun q => ?_)
            · have k := k.1 q
              refine sp_iconst 137 rfl rfl ?_
              refine sp_goto rfl ?_
              exact st_iret rfl rfl (Nat.le_refl _) (Nat.le_refl _) k
            · have k := k.2 q
              refine sp_iload_n 131 rfl rfl rfl ?_
              refine sp_bipush 133 rfl rfl ?_
              refine sp_I (y := Int32.ofInt 20) rfl ?_
              refine sp_ic_ne 136 rfl rfl (fun q => ?_) (fun q => ?_)
              · have k := k.2 q
                refine sp_iconst 141 rfl rfl ?_
                exact st_iret rfl rfl (Nat.le_refl _) (Nat.le_refl _) k
              · have k := k.1 q
                refine sp_iconst 137 rfl rfl ?_
                refine sp_goto rfl ?_
                exact st_iret rfl rfl (Nat.le_refl _) (Nat.le_refl _) k
          · have k := k.2 q
            refine sp_iconst 114 rfl rfl ?_
            exact st_iret rfl rfl (Nat.le_refl _) (Nat.le_refl _) k
    · have k := k.2 q
      refine sp_aload_n 57 rfl rfl rfl ?_
      refine sp_iconst 58 rfl rfl ?_
      refine sc_V 61 rfl rfl rfl rfl rfl (Nat.le_refl _) (Nat.le_refl _) rfl ?_
      refine mm_s_mono _ _ _ _ _ _ ?_ k
      rintro r_ h_ ⟨I11, J11, rfl, rfl, k⟩
      refine sp_iconst 62 rfl rfl ?_
      exact st_iret rfl rfl (Nat.le_refl _) (Nat.le_refl _) k
  · have k := k.1 q
    refine sp_aload_n 15 rfl rfl rfl ?_
    refine sc_V 18 rfl rfl rfl rfl rfl (Nat.le_refl _) (Nat.le_refl _) rfl ?_
    refine mm_s_mono _ _ _ _ _ _ ?_ k
    rintro r_ h_ ⟨x12, I12, J12, rfl, rfl, k⟩
    refine sp_if_eq 21 rfl rfl (fun q => ?_) (fun q => ?_)
    · have k := k.1 q
      refine sp_iload_n 53 rfl rfl rfl ?_
      refine sp_if_ge 56 rfl rfl (fun q => ?_) (fun q => ?_)
      · have k := k.1 q
        refine sp_iload_n 64 rfl rfl rfl ?_
        refine sc_S 67 rfl rfl rfl rfl (Nat.le_refl _) (Nat.le_refl _) rfl ?_
        refine cx_X11_rank ?_
        refine sp_bipush 69 rfl rfl ?_
        refine sp_I (y := Int32.ofInt 23) rfl ?_
        refine sp_ic_ne 72 rfl rfl (fun q => ?_) (fun q => ?_)
        · have k := k.2 q
          refine sp_aload_n 99 rfl rfl rfl ?_
          refine sp_iload_n 100 rfl rfl rfl ?_
          refine sc_S 103 rfl rfl rfl rfl (Nat.le_refl _) (Nat.le_refl _) rfl ?_
          refine cx_X11_rank ?_
          refine sc_V 106 rfl rfl rfl rfl rfl (Nat.le_refl _) (Nat.le_refl _) rfl ?_
          refine mm_s_mono _ _ _ _ _ _ ?_ k
          rintro r_ h_ ⟨I13, J13, rfl, rfl, k⟩
          refine sp_aload_n 107 rfl rfl rfl ?_
          refine hq_getI 110 rfl rfl rfl ?_
          refine sp_if_le 113 rfl rfl (fun q => ?_) (fun q => ?_)
          · have k := k.1 q
            refine sp_aload_n 116 rfl rfl rfl ?_
            refine sp_iload_n 117 rfl rfl rfl ?_
            refine sc_V 120 rfl rfl rfl rfl rfl (Nat.le_refl _) (Nat.le_refl _) rfl ?_
            refine mm_s_mono _ _ _ _ _ _ ?_ k
            rintro r_ h_ ⟨I14, J14, rfl, rfl, k⟩
            refine sp_aload_n 121 rfl rfl rfl ?_
            refine sc_V 124 rfl rfl rfl rfl rfl (Nat.le_refl _) (Nat.le_refl _) rfl ?_
            refine mm_s_mono _ _ _ _ _ _ ?_ k
            rintro r_ h_ ⟨I15, J15, rfl, rfl, k⟩
            refine sp_iload_n 125 rfl rfl rfl ?_
            refine sp_bipush 127 rfl rfl ?_
            refine sp_I (y := Int32.ofInt 21) rfl ?_
            refine sp_ic_eq 130 rfl rfl (fun q => ?_) (fun q => ?_)
            · have k := k.1 q
              refine sp_iconst 137 rfl rfl ?_
              refine sp_goto rfl ?_
              exact st_iret rfl rfl (Nat.le_refl _) (Nat.le_refl _) k
            · have k := k.2 q
              refine sp_iload_n 131 rfl rfl rfl ?_
              refine sp_bipush 133 rfl rfl ?_
              refine sp_I (y := Int32.ofInt 20) rfl ?_
              refine sp_ic_ne 136 rfl rfl (fun q => ?_) (fun q => ?_)
              · have k := k.2 q
                refine sp_iconst 141 rfl rfl ?_
                exact st_iret rfl rfl (Nat.le_refl _) (Nat.le_refl _) k
              · have k := k.1 q
                refine sp_iconst 137 rfl rfl ?_
                refine sp_goto rfl ?_
                exact st_iret rfl rfl (Nat.le_refl _) (Nat.le_refl _) k
          · have k := k.2 q
            refine sp_iconst 114 rfl rfl ?_
            exact st_iret rfl rfl (Nat.le_refl _) (Nat.le_refl _) k
        · have k := k.1 q
          refine sp_aload_n 73 rfl rfl rfl ?_
          refine sp_bipush 75 rfl rfl ?_
          refine sp_I (y := Int32.ofInt 26) rfl ?_
          refine sc_V 78 rfl rfl rfl rfl rfl (Nat.le_refl _) (Nat.le_refl _) rfl ?_
          refine mm_s_mono _ _ _ _ _ _ ?_ k
          rintro r_ h_ ⟨I16, J16, rfl, rfl, k⟩
          refine sp_aload_n 79 rfl rfl rfl ?_
          refine sc_V 82 rfl rfl rfl rfl rfl (Nat.le_refl _) (Nat.le_refl _) rfl ?_
          refine mm_s_mono _ _ _ _ _ _ ?_ k
          rintro r_ h_ ⟨x17, I17, J17, rfl, rfl, k⟩
          refine sc_S 85 rfl rfl rfl rfl (Nat.le_refl _) (Nat.le_refl _) rfl ?_
          refine cx_X11_rank ?_
          refine sp_bipush 87 rfl rfl ?_
          refine sp_I (y := Int32.ofInt 23) rfl ?_
          refine sp_ic_ne 90 rfl rfl (fun q => ?_) (fun q => ?_)
          · have k := k.2 q
            refine sp_aload_n 107 rfl rfl rfl ?_
            refine hq_getI 110 rfl rfl rfl ?_
            refine sp_if_le 113 rfl rfl (fun q => ?_) (fun q => ?_)
            · have k := k.1 q
              refine sp_aload_n 116 rfl rfl rfl ?_
              refine sp_iload_n 117 rfl rfl rfl ?_
              refine sc_V 120 rfl rfl rfl rfl rfl (Nat.le_refl _) (Nat.le_refl _) rfl ?_
              refine mm_s_mono _ _ _ _ _ _ ?_ k
              rintro r_ h_ ⟨I18, J18, rfl, rfl, k⟩
              refine sp_aload_n 121 rfl rfl rfl ?_
              refine sc_V 124 rfl rfl rfl rfl rfl (Nat.le_refl _) (Nat.le_refl _) rfl ?_
              refine mm_s_mono _ _ _ _ _ _ ?_ k
              rintro r_ h_ ⟨I19, J19, rfl, rfl, k⟩
              refine sp_iload_n 125 rfl rfl rfl ?_
              refine sp_bipush 127 rfl rfl ?_
              refine sp_I (y := Int32.ofInt 21) rfl ?_
              refine sp_ic_eq 130 rfl rfl (fun q => ?_) (fun q => ?_)
              · have k := k.1 q
                refine sp_iconst 137 rfl rfl ?_
                refine sp_goto rfl ?_
                exact st_iret rfl rfl (Nat.le_refl _) (Nat.le_refl _) k
              · have k := k.2 q
                refine sp_iload_n 131 rfl rfl rfl ?_
                refine sp_bipush 133 rfl rfl ?_
                refine sp_I (y := Int32.ofInt 20) rfl ?_
                refine sp_ic_ne 136 rfl rfl (fun q => ?_) (fun q => ?_)
                · have k := k.2 q
                  refine sp_iconst 141 rfl rfl ?_
                  exact st_iret rfl rfl (Nat.le_refl _) (Nat.le_refl _) k
                · have k := k.1 q
                  refine sp_iconst 137 rfl rfl ?_
                  refine sp_goto rfl ?_
                  exact st_iret rfl rfl (Nat.le_refl _) (Nat.le_refl _) k
            · have k := k.2 q
              refine sp_iconst 114 rfl rfl ?_
              exact st_iret rfl rfl (Nat.le_refl _) (Nat.le_refl _) k
          · have k := k.1 q
            refine sp_aload_n 91 rfl rfl rfl ?_
            refine sp_iconst 92 rfl rfl ?_
            refine sc_V 95 rfl rfl rfl rfl rfl (Nat.le_refl _) (Nat.le_refl _) rfl ?_
            refine mm_s_mono _ _ _ _ _ _ ?_ k
            rintro r_ h_ ⟨I20, J20, rfl, rfl, k⟩
            refine sp_goto rfl ?_
            refine sp_aload_n 107 rfl rfl rfl ?_
            refine hq_getI 110 rfl rfl rfl ?_
            refine sp_if_le 113 rfl rfl (fun q => ?_) (fun q => ?_)
            · have k := k.1 q
              refine sp_aload_n 116 rfl rfl rfl ?_
              refine sp_iload_n 117 rfl rfl rfl ?_
              refine sc_V 120 rfl rfl rfl rfl rfl (Nat.le_refl _) (Nat.le_refl _) rfl ?_
              refine mm_s_mono _ _ _ _ _ _ ?_ k
              rintro r_ h_ ⟨I21, J21, rfl, rfl, k⟩
              refine sp_aload_n 121 rfl rfl rfl ?_
              refine sc_V 124 rfl rfl rfl rfl rfl (Nat.le_refl _) (Nat.le_refl _) rfl ?_
              refine mm_s_mono _ _ _ _ _ _ ?_ k
              rintro r_ h_ ⟨I22, J22, rfl, rfl, k⟩
              refine sp_iload_n 125 rfl rfl rfl ?_
              refine sp_bipush 127 rfl rfl ?_
              refine sp_I (y := Int32.ofInt 21) rfl ?_
              refine sp_ic_eq 130 rfl rfl (fun q => ?_) (fun q => ?_)
              · have k := k.1 q
                refine sp_iconst 137 rfl rfl ?_
                refine sp_goto rfl ?_
                exact st_iret rfl rfl (Nat.le_refl _) (Nat.le_refl _) k
              · have k := k.2 q
                refine sp_iload_n 131 rfl rfl rfl ?_
                refine sp_bipush 133 rfl rfl ?_
                refine sp_I (y := Int32.ofInt 20) rfl ?_
                refine sp_ic_ne 136 rfl rfl (fun q => ?_) (fun q => ?_)
                · have k := k.2 q
                  refine sp_iconst 141 rfl rfl ?_
                  exact st_iret rfl rfl (Nat.le_refl _) (Nat.le_refl _) k
                · have k := k.1 q
                  refine sp_iconst 137 rfl rfl ?_
                  refine sp_goto rfl ?_
                  exact st_iret rfl rfl (Nat.le_refl _) (Nat.le_refl _) k
            · have k := k.2 q
              refine sp_iconst 114 rfl rfl ?_
              exact st_iret rfl rfl (Nat.le_refl _) (Nat.le_refl _) k
      · have k := k.2 q
        refine sp_aload_n 57 rfl rfl rfl ?_
        refine sp_iconst 58 rfl rfl ?_
        refine sc_V 61 rfl rfl rfl rfl rfl (Nat.le_refl _) (Nat.le_refl _) rfl ?_
        refine mm_s_mono _ _ _ _ _ _ ?_ k
        rintro r_ h_ ⟨I23, J23, rfl, rfl, k⟩
        refine sp_iconst 62 rfl rfl ?_
        exact st_iret rfl rfl (Nat.le_refl _) (Nat.le_refl _) k
    · have k := k.2 q
      refine sp_aload_n 22 rfl rfl rfl ?_
      refine sp_iconst 23 rfl rfl ?_
      refine sc_V 26 rfl rfl rfl rfl rfl (Nat.le_refl _) (Nat.le_refl _) rfl ?_
      refine mm_s_mono _ _ _ _ _ _ ?_ k
      rintro r_ h_ ⟨I24, J24, rfl, rfl, k⟩
      refine sp_aload_n 27 rfl rfl rfl ?_
      refine sp_dup 28 rfl rfl rfl ?_
      refine hq_getI 31 rfl rfl rfl ?_
      refine sp_iconst 32 rfl rfl ?_
      refine sp_isub 33 rfl rfl ?_
      refine hq_putI 36 rfl rfl rfl ?_
      refine sp_aload_n 37 rfl rfl rfl ?_
      refine sp_dup 38 rfl rfl rfl ?_
      refine hq_getI 41 rfl rfl rfl ?_
      refine sp_I (y := (I24 65 23)) (by simp [mm_u]) ?_
      refine sp_iconst 42 rfl rfl ?_
      refine sp_isub 43 rfl rfl ?_
      refine hq_putI 46 rfl rfl rfl ?_
      refine sp_aload_n 47 rfl rfl rfl ?_
      refine sc_V 50 rfl rfl rfl rfl rfl (Nat.le_refl _) (Nat.le_refl _) rfl ?_
      refine mm_s_mono _ _ _ _ _ _ ?_ k
      rintro r_ h_ ⟨I25, J25, rfl, rfl, k⟩
      refine sp_iconst 51 rfl rfl ?_
      exact st_iret rfl rfl (Nat.le_refl _) (Nat.le_refl _) k
theorem sg_X11_readNumber {SL : Nat} {xs : Nat → Int32} {d : Nat} {p s q : Nat} {Q : Option Value → mm_H → Prop} {a0 : Int32} {a1 : Int32} {a2 : Int32} {I : Nat → Nat → Int32} {J : Nat → Nat → Int64}  (k : (mm_s SL xs (d + 3) 172 [.ref 65] (hp p s q I J) (fun r_ h_ => ∃ I1 J1, r_ = none ∧ h_ = hp p s q I1 J1 ∧ (vp_in a0 8 ∧ (mm_s SL xs (d + 3) 177 [.ref 65, .int a1, .int a2] (hp p s q (mm_u I1 85 ((a0).toNatClampNeg) (Int32.ofInt 1)) J1) (fun r_ h_ => ∃ x2 I2 J2, r_ = some (.int x2) ∧ h_ = hp p s q I2 J2 ∧ (vp_in a0 6 ∧ Q none (hp p s q (mm_u I2 74 ((a0).toNatClampNeg) x2) J2)))))))) : mm_s SL xs (d + 4) 191 [.ref 65, .int a0, .int a1, .int a2] (hp p s q I J) Q := by
  refine e_X11_readNumber rfl ?_
  refine sp_aload_n 1 rfl rfl rfl ?_
  refine sc_V 4 rfl rfl rfl rfl rfl (Nat.le_refl _) (Nat.le_refl _) rfl ?_
  refine mm_s_mono _ _ _ _ _ _ ?_ k
  rintro r_ h_ ⟨I1, J1, rfl, rfl, k⟩
  refine sp_aload_n 5 rfl rfl rfl ?_
  refine hq_getR 8 rfl rfl rfl rfl ?_
  refine sp_iload_n 9 rfl rfl rfl ?_
  refine sp_iconst 10 rfl rfl ?_
  have n1_ := k.1
  have k := k.2
  refine hq_zast 11 rfl rfl n1_ (by decide) rfl ?_
  refine sp_aload_n 12 rfl rfl rfl ?_
  refine hq_getR 15 rfl rfl rfl rfl ?_
  refine sp_iload_n 16 rfl rfl rfl ?_
  refine sp_aload_n 17 rfl rfl rfl ?_
  refine sp_iload_n 18 rfl rfl rfl ?_
  refine sp_iload_n 19 rfl rfl rfl ?_
  refine sc_V 22 rfl rfl rfl rfl rfl (Nat.le_refl _) (Nat.le_refl _) rfl ?_
  refine mm_s_mono _ _ _ _ _ _ ?_ k
  rintro r_ h_ ⟨x2, I2, J2, rfl, rfl, k⟩
  have n2_ := k.1
  have k := k.2
  refine hq_iast 23 rfl rfl n2_ rfl ?_
  exact st_vret rfl rfl (Nat.le_refl _) (Nat.le_refl _) k
def w_X11_goOn_0 (SL : Nat) (xs : Nat → Int32) (d : Nat) (p s q : Nat) (Q : Option Value → mm_H → Prop)  (I : Nat → Nat → Int32) (J : Nat → Nat → Int64) : Prop := mm_w SL xs (mm_s SL xs (d + 3)) mm_am kX11_goOn 0 0 none Q 0 [some (.ref 65)] [] (hp p s q I J) 0 0
theorem sg_X11_goOn_0 {SL : Nat} {xs : Nat → Int32} {d : Nat} {p s q : Nat} {Q : Option Value → mm_H → Prop}  {I : Nat → Nat → Int32} {J : Nat → Nat → Int64}  (k : (((sy_X11_isEnded  I J) = Int32.ofInt 0 → (mm_s SL xs (d + 3) 209 [.ref 65] (hp p s q I J) (fun r_ h_ => ∃ I1 J1, r_ = none ∧ h_ = hp p s q I1 J1 ∧ w_X11_goOn_0 SL xs d p s q Q  I1 J1))) ∧ (¬ ((sy_X11_isEnded  I J) = Int32.ofInt 0) → Q none (hp p s q I J)))) : w_X11_goOn_0 SL xs d p s q Q  I J := by
  unfold w_X11_goOn_0
  refine sp_aload_n 1 rfl rfl rfl ?_
  refine sc_V 4 rfl rfl rfl rfl rfl (Nat.le_refl _) (Nat.le_refl _) rfl ?_
  refine cy_X11_isEnded ?_
  refine sp_if_ne 7 rfl rfl (fun q => ?_) (fun q => ?_)
  · have k := k.2 q
    exact st_vret rfl rfl (Nat.le_refl _) (Nat.le_refl _) k
  · have k := k.1 q
    refine sp_aload_n 8 rfl rfl rfl ?_
    refine sc_V 11 rfl rfl rfl rfl rfl (Nat.le_refl _) (Nat.le_refl _) rfl ?_
    refine mm_s_mono _ _ _ _ _ _ ?_ k
    rintro r_ h_ ⟨I1, J1, rfl, rfl, k⟩
    refine sp_goto rfl ?_
    exact k
def w_X11_go_15 (SL : Nat) (xs : Nat → Int32) (d : Nat) (p s q : Nat) (Q : Option Value → mm_H → Prop) (v1 : Int32) (v2 : Int32) (I : Nat → Nat → Int32) (J : Nat → Nat → Int64) : Prop := mm_w SL xs (mm_s SL xs (d + 3)) mm_am kX11_go 0 0 (some .int) Q 15 [some (.ref 65), some (.int v1), some (.int v2)] [] (hp p s q I J) 0 0
theorem sg_X11_go {SL : Nat} {xs : Nat → Int32} {d : Nat} {p s q : Nat} {Q : Option Value → mm_H → Prop} {a0 : Int32} {I : Nat → Nat → Int32} {J : Nat → Nat → Int64}  (k : ((a0 < Int32.ofInt 0 → Q (some (.int (Int32.ofInt (-1)))) (hp p s q I J)) ∧ (¬ (a0 < Int32.ofInt 0) → ((a0 ≤ (Int32.ofInt 1000) → w_X11_go_15 SL xs d p s q Q a0 (Int32.ofInt 0) I J) ∧ (¬ (a0 ≤ (Int32.ofInt 1000)) → Q (some (.int (Int32.ofInt (-1)))) (hp p s q I J)))))) : mm_s SL xs (d + 4) 213 [.ref 65, .int a0] (hp p s q I J) Q := by
  refine e_X11_go rfl ?_
  refine sp_iload_n 1 rfl rfl rfl ?_
  refine sp_if_lt 4 rfl rfl (fun q => ?_) (fun q => ?_)
  · have k := k.1 q
    refine sp_iconst 12 rfl rfl ?_
    exact st_iret rfl rfl (Nat.le_refl _) (Nat.le_refl _) k
  · have k := k.2 q
    refine sp_iload_n 5 rfl rfl rfl ?_
    refine sp_sipush 8 rfl rfl ?_
    refine sp_I (y := Int32.ofInt 1000) rfl ?_
    refine sp_ic_le 11 rfl rfl (fun q => ?_) (fun q => ?_)
    · have k := k.1 q
      refine sp_iconst 14 rfl rfl ?_
      refine sp_istore_n 15 rfl rfl rfl ?_
      exact k
    · have k := k.2 q
      refine sp_iconst 12 rfl rfl ?_
      exact st_iret rfl rfl (Nat.le_refl _) (Nat.le_refl _) k
theorem sg_X11_go_15 {SL : Nat} {xs : Nat → Int32} {d : Nat} {p s q : Nat} {Q : Option Value → mm_H → Prop} {v1 : Int32} {v2 : Int32} {I : Nat → Nat → Int32} {J : Nat → Nat → Int64}  (k : ((v1 ≤ v2 → Q (some (.int v2)) (hp p s q I J)) ∧ (¬ (v1 ≤ v2) → (((sy_X11_isEnded  I J) = Int32.ofInt 0 → (mm_s SL xs (d + 3) 209 [.ref 65] (hp p s q I J) (fun r_ h_ => ∃ I1 J1, r_ = none ∧ h_ = hp p s q I1 J1 ∧ w_X11_go_15 SL xs d p s q Q v1 (v2 + Int32.ofInt 1) I1 J1))) ∧ (¬ ((sy_X11_isEnded  I J) = Int32.ofInt 0) → Q (some (.int v2)) (hp p s q I J)))))) : w_X11_go_15 SL xs d p s q Q v1 v2 I J := by
  unfold w_X11_go_15
  refine sp_iload_n 16 rfl rfl rfl ?_
  refine sp_iload_n 17 rfl rfl rfl ?_
  refine sp_ic_ge 20 rfl rfl (fun q => ?_) (fun q => ?_)
  · have k := k.1 q
    refine sp_iload_n 38 rfl rfl rfl ?_
    exact st_iret rfl rfl (Nat.le_refl _) (Nat.le_refl _) k
  · have k := k.2 q
    refine sp_aload_n 21 rfl rfl rfl ?_
    refine sc_V 24 rfl rfl rfl rfl rfl (Nat.le_refl _) (Nat.le_refl _) rfl ?_
    refine cy_X11_isEnded ?_
    refine sp_if_ne 27 rfl rfl (fun q => ?_) (fun q => ?_)
    · have k := k.2 q
      refine sp_iload_n 38 rfl rfl rfl ?_
      exact st_iret rfl rfl (Nat.le_refl _) (Nat.le_refl _) k
    · have k := k.1 q
      refine sp_aload_n 28 rfl rfl rfl ?_
      refine sc_V 31 rfl rfl rfl rfl rfl (Nat.le_refl _) (Nat.le_refl _) rfl ?_
      refine mm_s_mono _ _ _ _ _ _ ?_ k
      rintro r_ h_ ⟨I1, J1, rfl, rfl, k⟩
      refine sp_iinc 34 rfl rfl rfl rfl ?_
      refine sp_goto rfl ?_
      exact k
def w_X11_goSome_2 (SL : Nat) (xs : Nat → Int32) (d : Nat) (p s q : Nat) (Q : Option Value → mm_H → Prop) (v1 : Int32) (v2 : Int32) (I : Nat → Nat → Int32) (J : Nat → Nat → Int64) : Prop := mm_w SL xs (mm_s SL xs (d + 3)) mm_am kX11_goSome 0 0 none Q 2 [some (.ref 65), some (.int v1), some (.int v2)] [] (hp p s q I J) 0 0
theorem sg_X11_goSome {SL : Nat} {xs : Nat → Int32} {d : Nat} {p s q : Nat} {Q : Option Value → mm_H → Prop} {a0 : Int32} {I : Nat → Nat → Int32} {J : Nat → Nat → Int64}  (k : w_X11_goSome_2 SL xs d p s q Q a0 (Int32.ofInt 0) I J) : mm_s SL xs (d + 4) 219 [.ref 65, .int a0] (hp p s q I J) Q := by
  refine e_X11_goSome rfl ?_
  refine sp_iconst 1 rfl rfl ?_
  refine sp_istore_n 2 rfl rfl rfl ?_
  exact k
theorem sg_X11_goSome_2 {SL : Nat} {xs : Nat → Int32} {d : Nat} {p s q : Nat} {Q : Option Value → mm_H → Prop} {v1 : Int32} {v2 : Int32} {I : Nat → Nat → Int32} {J : Nat → Nat → Int64}  (k : ((v1 ≤ v2 → Q none (hp p s q I J)) ∧ (¬ (v1 ≤ v2) → (((sy_X11_isEnded  I J) = Int32.ofInt 0 → (mm_s SL xs (d + 3) 209 [.ref 65] (hp p s q I J) (fun r_ h_ => ∃ I1 J1, r_ = none ∧ h_ = hp p s q I1 J1 ∧ w_X11_goSome_2 SL xs d p s q Q v1 (v2 + Int32.ofInt 1) I1 J1))) ∧ (¬ ((sy_X11_isEnded  I J) = Int32.ofInt 0) → Q none (hp p s q I J)))))) : w_X11_goSome_2 SL xs d p s q Q v1 v2 I J := by
  unfold w_X11_goSome_2
  refine sp_iload_n 3 rfl rfl rfl ?_
  refine sp_iload_n 4 rfl rfl rfl ?_
  refine sp_ic_ge 7 rfl rfl (fun q => ?_) (fun q => ?_)
  · have k := k.1 q
    exact st_vret rfl rfl (Nat.le_refl _) (Nat.le_refl _) k
  · have k := k.2 q
    refine sp_aload_n 8 rfl rfl rfl ?_
    refine sc_V 11 rfl rfl rfl rfl rfl (Nat.le_refl _) (Nat.le_refl _) rfl ?_
    refine cy_X11_isEnded ?_
    refine sp_if_ne 14 rfl rfl (fun q => ?_) (fun q => ?_)
    · have k := k.2 q
      exact st_vret rfl rfl (Nat.le_refl _) (Nat.le_refl _) k
    · have k := k.1 q
      refine sp_aload_n 15 rfl rfl rfl ?_
      refine sc_V 18 rfl rfl rfl rfl rfl (Nat.le_refl _) (Nat.le_refl _) rfl ?_
      refine mm_s_mono _ _ _ _ _ _ ?_ k
      rintro r_ h_ ⟨I1, J1, rfl, rfl, k⟩
      refine sp_iinc 21 rfl rfl rfl rfl ?_
      refine sp_goto rfl ?_
      exact k
def w_X11_meet_15 (SL : Nat) (xs : Nat → Int32) (d : Nat) (p s q : Nat) (Q : Option Value → mm_H → Prop) (v1 : Int32) (I : Nat → Nat → Int32) (J : Nat → Nat → Int64) : Prop := mm_w SL xs (mm_s SL xs (d + 3)) mm_am kX11_meet 0 0 (some .int) Q 15 [some (.ref 65), some (.int v1)] [] (hp p s q I J) 0 0
theorem sg_X11_meet {SL : Nat} {xs : Nat → Int32} {d : Nat} {p s q : Nat} {Q : Option Value → mm_H → Prop}  {I : Nat → Nat → Int32} {J : Nat → Nat → Int64}  (k : ((Int32.ofInt 0 ≤ (I 65 52) → (mm_s SL xs (d + 3) 203 [.ref 65] (hp p s q I J) (fun r_ h_ => ∃ I1 J1, r_ = none ∧ h_ = hp p s q I1 J1 ∧ w_X11_meet_15 SL xs d p s q Q (Int32.ofInt (-1)) I1 J1))) ∧ (¬ (Int32.ofInt 0 ≤ (I 65 52)) → Q (some (.int (Int32.ofInt (-1)))) (hp p s q I J)))) : mm_s SL xs (d + 4) 226 [.ref 65] (hp p s q I J) Q := by
  refine e_X11_meet rfl ?_
  refine sp_aload_n 1 rfl rfl rfl ?_
  refine hq_getI 4 rfl rfl rfl ?_
  refine sp_if_ge 7 rfl rfl (fun q => ?_) (fun q => ?_)
  · have k := k.1 q
    refine sp_aload_n 10 rfl rfl rfl ?_
    refine sc_V 13 rfl rfl rfl rfl rfl (Nat.le_refl _) (Nat.le_refl _) rfl ?_
    refine mm_s_mono _ _ _ _ _ _ ?_ k
    rintro r_ h_ ⟨I1, J1, rfl, rfl, k⟩
    refine sp_iconst 14 rfl rfl ?_
    refine sp_istore_n 15 rfl rfl rfl ?_
    exact k
  · have k := k.2 q
    refine sp_iconst 8 rfl rfl ?_
    exact st_iret rfl rfl (Nat.le_refl _) (Nat.le_refl _) k
theorem sg_X11_meet_15 {SL : Nat} {xs : Nat → Int32} {d : Nat} {p s q : Nat} {Q : Option Value → mm_H → Prop} {v1 : Int32} {I : Nat → Nat → Int32} {J : Nat → Nat → Int64}  (k : (((sy_X11_isEnded  I J) = Int32.ofInt 0 → ((Int32.ofInt 0 ≤ v1 → (mm_s SL xs (d + 3) 204 [.ref 65] (hp p s q I J) (fun r_ h_ => ∃ I2 J2, r_ = none ∧ h_ = hp p s q I2 J2 ∧ Q (some (.int v1)) (hp p s q I2 J2)))) ∧ (¬ (Int32.ofInt 0 ≤ v1) → (mm_s SL xs (d + 3) 209 [.ref 65] (hp p s q I J) (fun r_ h_ => ∃ I3 J3, r_ = none ∧ h_ = hp p s q I3 J3 ∧ (mm_s SL xs (d + 3) 225 [.ref 65] (hp p s q I3 J3) (fun r_ h_ => ∃ x4 I4 J4, r_ = some (.int x4) ∧ h_ = hp p s q I4 J4 ∧ ((x4 = Int32.ofInt 0 → w_X11_meet_15 SL xs d p s q Q (Int32.ofInt (-1)) I4 J4) ∧ (¬ (x4 = Int32.ofInt 0) → w_X11_meet_15 SL xs d p s q Q (I4 65 60) I4 J4))))))))) ∧ (¬ ((sy_X11_isEnded  I J) = Int32.ofInt 0) → (mm_s SL xs (d + 3) 204 [.ref 65] (hp p s q I J) (fun r_ h_ => ∃ I1 J1, r_ = none ∧ h_ = hp p s q I1 J1 ∧ Q (some (.int v1)) (hp p s q I1 J1)))))) : w_X11_meet_15 SL xs d p s q Q v1 I J := by
  unfold w_X11_meet_15
  refine sp_aload_n 16 rfl rfl rfl ?_
  refine sc_V 19 rfl rfl rfl rfl rfl (Nat.le_refl _) (Nat.le_refl _) rfl ?_
  refine cy_X11_isEnded ?_
  refine sp_if_ne 22 rfl rfl (fun q => ?_) (fun q => ?_)
  · have k := k.2 q
    refine sp_aload_n 50 rfl rfl rfl ?_
    refine sc_V 53 rfl rfl rfl rfl rfl (Nat.le_refl _) (Nat.le_refl _) rfl ?_
    refine mm_s_mono _ _ _ _ _ _ ?_ k
    rintro r_ h_ ⟨I1, J1, rfl, rfl, k⟩
    refine sp_iload_n 54 rfl rfl rfl ?_
    exact st_iret rfl rfl (Nat.le_refl _) (Nat.le_refl _) k
  · have k := k.1 q
    refine sp_iload_n 23 rfl rfl rfl ?_
    refine sp_if_ge 26 rfl rfl (fun q => ?_) (fun q => ?_)
    · have k := k.1 q
      refine sp_aload_n 50 rfl rfl rfl ?_
      refine sc_V 53 rfl rfl rfl rfl rfl (Nat.le_refl _) (Nat.le_refl _) rfl ?_
      refine mm_s_mono _ _ _ _ _ _ ?_ k
      rintro r_ h_ ⟨I2, J2, rfl, rfl, k⟩
      refine sp_iload_n 54 rfl rfl rfl ?_
      exact st_iret rfl rfl (Nat.le_refl _) (Nat.le_refl _) k
    · have k := k.2 q
      refine sp_aload_n 27 rfl rfl rfl ?_
      refine sc_V 30 rfl rfl rfl rfl rfl (Nat.le_refl _) (Nat.le_refl _) rfl ?_
      refine mm_s_mono _ _ _ _ _ _ ?_ k
      rintro r_ h_ ⟨I3, J3, rfl, rfl, k⟩
      refine sp_aload_n 31 rfl rfl rfl ?_
      refine sc_V 34 rfl rfl rfl rfl rfl (Nat.le_refl _) (Nat.le_refl _) rfl ?_
      refine mm_s_mono _ _ _ _ _ _ ?_ k
      rintro r_ h_ ⟨x4, I4, J4, rfl, rfl, k⟩
      refine sp_if_eq 37 rfl rfl (fun q => ?_) (fun q => ?_)
      · have k := k.1 q
        refine sp_iconst 45 rfl rfl ?_
        refine sp_istore_n 46 rfl rfl rfl ?_
        refine sp_goto rfl ?_
        exact k
      · have k := k.2 q
        refine sp_aload_n 38 rfl rfl rfl ?_
        refine hq_getI 41 rfl rfl rfl ?_
        refine sp_goto rfl ?_
        refine sp_istore_n 46 rfl rfl rfl ?_
        refine sp_goto rfl ?_
        exact k
theorem sg_X11_choice {SL : Nat} {xs : Nat → Int32} {d : Nat} {p s q : Nat} {Q : Option Value → mm_H → Prop} {a0 : Int32} {a1 : Int32} {I : Nat → Nat → Int32} {J : Nat → Nat → Int64}  (k : (mm_s SL xs (d + 3) 259 [.ref 65, .int a0, .int a1] (hp p s q I J) (fun r_ h_ => ∃ x1 I1 J1, r_ = some (.int x1) ∧ h_ = hp p s q I1 J1 ∧ Q (some (.int x1)) (hp p s q I1 J1)))) : mm_s SL xs (d + 4) 260 [.ref 65, .int a0, .int a1] (hp p s q I J) Q := by
  refine e_X11_choice rfl ?_
  refine sp_aload_n 1 rfl rfl rfl ?_
  refine sp_iload_n 2 rfl rfl rfl ?_
  refine sp_iload_n 3 rfl rfl rfl ?_
  refine sc_V 6 rfl rfl rfl rfl rfl (Nat.le_refl _) (Nat.le_refl _) rfl ?_
  refine mm_s_mono _ _ _ _ _ _ ?_ k
  rintro r_ h_ ⟨x1, I1, J1, rfl, rfl, k⟩
  exact st_iret rfl rfl (Nat.le_refl _) (Nat.le_refl _) k
theorem sg_X11_expected {SL : Nat} {xs : Nat → Int32} {d : Nat} {p s q : Nat} {Q : Option Value → mm_H → Prop} {a0 : Int32} {a1 : Int32} {a2 : Int32} {I : Nat → Nat → Int32} {J : Nat → Nat → Int64}  (k : (((sx_X11_isPart a2) = Int32.ofInt 0 → Q (some (.int (Int32.ofInt (-1)))) (hp p s q I J)) ∧ (¬ ((sx_X11_isPart a2) = Int32.ofInt 0) → (mm_s SL xs (d + 3) 259 [.ref 65, .int a0, .int a1] (hp p s q I J) (fun r_ h_ => ∃ x1 I1 J1, r_ = some (.int x1) ∧ h_ = hp p s q I1 J1 ∧ ((Int32.ofInt 0 ≤ x1 → (vp_in a1 9 ∧ (mm_s SL xs (d + 3) 255 [.ref 65, .int a0, .int x1] (hp p s q I1 J1) (fun r_ h_ => ∃ x2 I2 J2, r_ = some (.int x2) ∧ h_ = hp p s q I2 J2 ∧ (mm_s SL xs (d + 3) 254 [.ref 65] (hp p s q I2 J2) (fun r_ h_ => ∃ x3 I3 J3, r_ = some (.int x3) ∧ h_ = hp p s q I3 J3 ∧ (mm_s SL xs (d + 3) 256 [.int ((I1 82 ((a1).toNatClampNeg)) * x2), .int x3, .int a2] (hp p s q I3 J3) (fun r_ h_ => ∃ x4 I4 J4, r_ = some (.int x4) ∧ h_ = hp p s q I4 J4 ∧ Q (some (.int x4)) (hp p s q I4 J4))))))))) ∧ (¬ (Int32.ofInt 0 ≤ x1) → Q (some (.int (Int32.ofInt (-1)))) (hp p s q I1 J1)))))))) : mm_s SL xs (d + 4) 261 [.ref 65, .int a0, .int a1, .int a2] (hp p s q I J) Q := by
  refine e_X11_expected rfl ?_
  refine sp_iload_n 1 rfl rfl rfl ?_
  refine sc_S 4 rfl rfl rfl rfl (Nat.le_refl _) (Nat.le_refl _) rfl ?_
  refine cx_X11_isPart ?_
  refine sp_if_eq 7 rfl rfl (fun q => ?_) (fun q => ?_)
  · have k := k.1 q
    refine sp_iconst 17 rfl rfl ?_
    refine sp_istore 19 rfl rfl rfl ?_
    refine sp_iload 21 rfl rfl rfl ?_
    refine sp_if_ge 24 rfl rfl (fun q => absurd q (by decide)) (fun _ => ?_)
    refine sp_iconst 25 rfl rfl ?_
    refine sp_goto rfl ?_
    exact st_iret rfl rfl (Nat.le_refl _) (Nat.le_refl _) k
  · have k := k.2 q
    refine sp_aload_n 8 rfl rfl rfl ?_
    refine sp_iload_n 9 rfl rfl rfl ?_
    refine sp_iload_n 10 rfl rfl rfl ?_
    refine sc_V 13 rfl rfl rfl rfl rfl (Nat.le_refl _) (Nat.le_refl _) rfl ?_
    refine mm_s_mono _ _ _ _ _ _ ?_ k
    rintro r_ h_ ⟨x1, I1, J1, rfl, rfl, k⟩
    refine sp_goto rfl ?_
    refine sp_istore 19 rfl rfl rfl ?_
    refine sp_iload 21 rfl rfl rfl ?_
    refine sp_if_ge 24 rfl rfl (fun q => ?_) (fun q => ?_)
    · have k := k.1 q
      refine sp_aload_n 29 rfl rfl rfl ?_
      refine hq_getR 32 rfl rfl rfl rfl ?_
      refine sp_iload_n 33 rfl rfl rfl ?_
      have n1_ := k.1
      have k := k.2
      refine hq_iald 34 rfl rfl n1_ rfl ?_
      refine sp_aload_n 35 rfl rfl rfl ?_
      refine sp_iload_n 36 rfl rfl rfl ?_
      refine sp_iload 38 rfl rfl rfl ?_
      refine sc_V 41 rfl rfl rfl rfl rfl (Nat.le_refl _) (Nat.le_refl _) rfl ?_
      refine mm_s_mono _ _ _ _ _ _ ?_ k
      rintro r_ h_ ⟨x2, I2, J2, rfl, rfl, k⟩
      refine sp_imul 42 rfl rfl ?_
      refine sp_aload_n 43 rfl rfl rfl ?_
      refine sc_V 46 rfl rfl rfl rfl rfl (Nat.le_refl _) (Nat.le_refl _) rfl ?_
      refine mm_s_mono _ _ _ _ _ _ ?_ k
      rintro r_ h_ ⟨x3, I3, J3, rfl, rfl, k⟩
      refine sp_iload_n 47 rfl rfl rfl ?_
      refine sc_S 50 rfl rfl rfl rfl (Nat.le_refl _) (Nat.le_refl _) rfl ?_
      refine mm_s_mono _ _ _ _ _ _ ?_ k
      rintro r_ h_ ⟨x4, I4, J4, rfl, rfl, k⟩
      exact st_iret rfl rfl (Nat.le_refl _) (Nat.le_refl _) k
    · have k := k.2 q
      refine sp_iconst 25 rfl rfl ?_
      refine sp_goto rfl ?_
      exact st_iret rfl rfl (Nat.le_refl _) (Nat.le_refl _) k
def w_X11_readCount_16 (SL : Nat) (xs : Nat → Int32) (d : Nat) (p s q : Nat) (Q : Option Value → mm_H → Prop) (v1 : Int32) (I : Nat → Nat → Int32) (J : Nat → Nat → Int64) : Prop := mm_w SL xs (mm_s SL xs (d + 4)) mm_am kX11_readCount 0 0 none Q 16 [some (.ref 65), some (.int v1)] [] (hp p s q I J) 0 0
theorem sg_X11_readCount {SL : Nat} {xs : Nat → Int32} {d : Nat} {p s q : Nat} {Q : Option Value → mm_H → Prop}  {I : Nat → Nat → Int32} {J : Nat → Nat → Int64}  (k : (mm_s SL xs (d + 4) 172 [.ref 65] (hp p s q I J) (fun r_ h_ => ∃ I1 J1, r_ = none ∧ h_ = hp p s q I1 J1 ∧ w_X11_readCount_16 SL xs d p s q Q (Int32.ofInt 0) (mm_u (mm_u I1 65 22 (Int32.ofInt 0)) 65 23 (Int32.ofInt 0)) J1))) : mm_s SL xs (d + 5) 190 [.ref 65] (hp p s q I J) Q := by
  refine e_X11_readCount rfl ?_
  refine sp_aload_n 1 rfl rfl rfl ?_
  refine sc_V 4 rfl rfl rfl rfl rfl (Nat.le_refl _) (Nat.le_refl _) rfl ?_
  refine mm_s_mono _ _ _ _ _ _ ?_ k
  rintro r_ h_ ⟨I1, J1, rfl, rfl, k⟩
  refine sp_aload_n 5 rfl rfl rfl ?_
  refine sp_iconst 6 rfl rfl ?_
  refine hq_putI 9 rfl rfl rfl ?_
  refine sp_aload_n 10 rfl rfl rfl ?_
  refine sp_iconst 11 rfl rfl ?_
  refine hq_putI 14 rfl rfl rfl ?_
  refine sp_iconst 15 rfl rfl ?_
  refine sp_istore_n 16 rfl rfl rfl ?_
  exact k
theorem sg_X11_readCount_16 {SL : Nat} {xs : Nat → Int32} {d : Nat} {p s q : Nat} {Q : Option Value → mm_H → Prop} {v1 : Int32} {I : Nat → Nat → Int32} {J : Nat → Nat → Int64}  (k : (((I 65 2) = Int32.ofInt 0 → ((v1 = (Int32.ofInt 2) → (mm_s SL xs (d + 4) 185 [.ref 65] (hp p s q I J) (fun r_ h_ => ∃ x4 I4 J4, r_ = some (.int x4) ∧ h_ = hp p s q I4 J4 ∧ ((x4 = Int32.ofInt 0 → (((I4 65 6) = (Int32.ofInt 59) → (((I4 65 2) = Int32.ofInt 0 → (mm_s SL xs (d + 4) 184 [.ref 65, .int (Int32.ofInt 0)] (hp p s q I4 J4) (fun r_ h_ => ∃ I7 J7, r_ = none ∧ h_ = hp p s q I7 J7 ∧ Q none (hp p s q I7 J7)))) ∧ (¬ ((I4 65 2) = Int32.ofInt 0) → Q none (hp p s q I4 J4)))) ∧ (¬ ((I4 65 6) = (Int32.ofInt 59)) → ((v1 = (Int32.ofInt 2) → (mm_s SL xs (d + 4) 189 [.ref 65] (hp p s q I4 J4) (fun r_ h_ => ∃ x9 I9 J9, r_ = some (.int x9) ∧ h_ = hp p s q I9 J9 ∧ w_X11_readCount_16 SL xs d p s q Q x9 I9 J9))) ∧ (¬ (v1 = (Int32.ofInt 2)) → (mm_s SL xs (d + 4) 187 [.ref 65, .int v1] (hp p s q I4 J4) (fun r_ h_ => ∃ x8 I8 J8, r_ = some (.int x8) ∧ h_ = hp p s q I8 J8 ∧ w_X11_readCount_16 SL xs d p s q Q x8 I8 J8))))))) ∧ (¬ (x4 = Int32.ofInt 0) → ((v1 = (Int32.ofInt 2) → (mm_s SL xs (d + 4) 189 [.ref 65] (hp p s q I4 J4) (fun r_ h_ => ∃ x6 I6 J6, r_ = some (.int x6) ∧ h_ = hp p s q I6 J6 ∧ w_X11_readCount_16 SL xs d p s q Q x6 I6 J6))) ∧ (¬ (v1 = (Int32.ofInt 2)) → (mm_s SL xs (d + 4) 187 [.ref 65, .int v1] (hp p s q I4 J4) (fun r_ h_ => ∃ x5 I5 J5, r_ = some (.int x5) ∧ h_ = hp p s q I5 J5 ∧ w_X11_readCount_16 SL xs d p s q Q x5 I5 J5))))))))) ∧ (¬ (v1 = (Int32.ofInt 2)) → ((v1 = (Int32.ofInt 2) → (mm_s SL xs (d + 4) 189 [.ref 65] (hp p s q I J) (fun r_ h_ => ∃ x3 I3 J3, r_ = some (.int x3) ∧ h_ = hp p s q I3 J3 ∧ w_X11_readCount_16 SL xs d p s q Q x3 I3 J3))) ∧ (¬ (v1 = (Int32.ofInt 2)) → (mm_s SL xs (d + 4) 187 [.ref 65, .int v1] (hp p s q I J) (fun r_ h_ => ∃ x2 I2 J2, r_ = some (.int x2) ∧ h_ = hp p s q I2 J2 ∧ w_X11_readCount_16 SL xs d p s q Q x2 I2 J2))))))) ∧ (¬ ((I 65 2) = Int32.ofInt 0) → (((I 65 2) = Int32.ofInt 0 → (mm_s SL xs (d + 4) 184 [.ref 65, .int (Int32.ofInt 0)] (hp p s q I J) (fun r_ h_ => ∃ I1 J1, r_ = none ∧ h_ = hp p s q I1 J1 ∧ Q none (hp p s q I1 J1)))) ∧ (¬ ((I 65 2) = Int32.ofInt 0) → Q none (hp p s q I J)))))) : w_X11_readCount_16 SL xs d p s q Q v1 I J := by
  unfold w_X11_readCount_16
  refine sp_aload_n 17 rfl rfl rfl ?_
  refine hq_getI 20 rfl rfl rfl ?_
  refine sp_if_ne 23 rfl rfl (fun q => ?_) (fun q => ?_)
  · have k := k.2 q
    refine sp_aload_n 66 rfl rfl rfl ?_
    refine hq_getI 69 rfl rfl rfl ?_
    refine sp_if_ne 72 rfl rfl (fun q => ?_) (fun q => ?_)
    · have k := k.2 q
      exact st_vret rfl rfl (Nat.le_refl _) (Nat.le_refl _) k
    · have k := k.1 q
      refine sp_aload_n 73 rfl rfl rfl ?_
      refine sp_iconst 74 rfl rfl ?_
      refine sc_V 77 rfl rfl rfl rfl rfl (Nat.le_refl _) (Nat.le_refl _) rfl ?_
      refine mm_s_mono _ _ _ _ _ _ ?_ k
      rintro r_ h_ ⟨I1, J1, rfl, rfl, k⟩
      exact st_vret rfl rfl (Nat.le_refl _) (Nat.le_refl _) k
  · have k := k.1 q
    refine sp_iload_n 24 rfl rfl rfl ?_
    refine sp_iconst 25 rfl rfl ?_
    refine sp_ic_ne 28 rfl rfl (fun q => ?_) (fun q => ?_)
    · have k := k.2 q
      refine sp_iload_n 45 rfl rfl rfl ?_
      refine sp_iconst 46 rfl rfl ?_
      refine sp_ic_ne 49 rfl rfl (fun q => ?_) (fun q => ?_)
      · have k := k.2 q
        refine sp_aload_n 57 rfl rfl rfl ?_
        refine sp_iload_n 58 rfl rfl rfl ?_
        refine sc_V 61 rfl rfl rfl rfl rfl (Nat.le_refl _) (Nat.le_refl _) rfl ?_
        refine mm_s_mono _ _ _ _ _ _ ?_ k
        rintro r_ h_ ⟨x2, I2, J2, rfl, rfl, k⟩
        refine sp_istore_n 62 rfl rfl rfl ?_
        refine sp_goto rfl ?_
        exact k
      · have k := k.1 q
        refine sp_aload_n 50 rfl rfl rfl ?_
        refine sc_V 53 rfl rfl rfl rfl rfl (Nat.le_refl _) (Nat.le_refl _) rfl ?_
        refine mm_s_mono _ _ _ _ _ _ ?_ k
        rintro r_ h_ ⟨x3, I3, J3, rfl, rfl, k⟩
        refine sp_goto rfl ?_
        refine sp_istore_n 62 rfl rfl rfl ?_
        refine sp_goto rfl ?_
        exact k
    · have k := k.1 q
      refine sp_aload_n 29 rfl rfl rfl ?_
      refine sc_V 32 rfl rfl rfl rfl rfl (Nat.le_refl _) (Nat.le_refl _) rfl ?_
      refine mm_s_mono _ _ _ _ _ _ ?_ k
      rintro r_ h_ ⟨x4, I4, J4, rfl, rfl, k⟩
      refine sp_if_ne 35 rfl rfl (fun q => ?_) (fun q => ?_)
      · have k := k.2 q
        refine sp_iload_n 45 rfl rfl rfl ?_
        refine sp_iconst 46 rfl rfl ?_
        refine sp_ic_ne 49 rfl rfl (fun q => ?_) (fun q => ?_)
        · have k := k.2 q
          refine sp_aload_n 57 rfl rfl rfl ?_
          refine sp_iload_n 58 rfl rfl rfl ?_
          refine sc_V 61 rfl rfl rfl rfl rfl (Nat.le_refl _) (Nat.le_refl _) rfl ?_
          refine mm_s_mono _ _ _ _ _ _ ?_ k
          rintro r_ h_ ⟨x5, I5, J5, rfl, rfl, k⟩
          refine sp_istore_n 62 rfl rfl rfl ?_
          refine sp_goto rfl ?_
          exact k
        · have k := k.1 q
          refine sp_aload_n 50 rfl rfl rfl ?_
          refine sc_V 53 rfl rfl rfl rfl rfl (Nat.le_refl _) (Nat.le_refl _) rfl ?_
          refine mm_s_mono _ _ _ _ _ _ ?_ k
          rintro r_ h_ ⟨x6, I6, J6, rfl, rfl, k⟩
          refine sp_goto rfl ?_
          refine sp_istore_n 62 rfl rfl rfl ?_
          refine sp_goto rfl ?_
          exact k
      · have k := k.1 q
        refine sp_aload_n 36 rfl rfl rfl ?_
        refine hq_getI 39 rfl rfl rfl ?_
        refine sp_bipush 41 rfl rfl ?_
        refine sp_I (y := Int32.ofInt 59) rfl ?_
        refine sp_ic_eq 44 rfl rfl (fun q => ?_) (fun q => ?_)
        · have k := k.1 q
          refine sp_aload_n 66 rfl rfl rfl ?_
          refine hq_getI 69 rfl rfl rfl ?_
          refine sp_if_ne 72 rfl rfl (fun q => ?_) (fun q => ?_)
          · have k := k.2 q
            exact st_vret rfl rfl (Nat.le_refl _) (Nat.le_refl _) k
          · have k := k.1 q
            refine sp_aload_n 73 rfl rfl rfl ?_
            refine sp_iconst 74 rfl rfl ?_
            refine sc_V 77 rfl rfl rfl rfl rfl (Nat.le_refl _) (Nat.le_refl _) rfl ?_
            refine mm_s_mono _ _ _ _ _ _ ?_ k
            rintro r_ h_ ⟨I7, J7, rfl, rfl, k⟩
            exact st_vret rfl rfl (Nat.le_refl _) (Nat.le_refl _) k
        · have k := k.2 q
          refine sp_iload_n 45 rfl rfl rfl ?_
          refine sp_iconst 46 rfl rfl ?_
          refine sp_ic_ne 49 rfl rfl (fun q => ?_) (fun q => ?_)
          · have k := k.2 q
            refine sp_aload_n 57 rfl rfl rfl ?_
            refine sp_iload_n 58 rfl rfl rfl ?_
            refine sc_V 61 rfl rfl rfl rfl rfl (Nat.le_refl _) (Nat.le_refl _) rfl ?_
            refine mm_s_mono _ _ _ _ _ _ ?_ k
            rintro r_ h_ ⟨x8, I8, J8, rfl, rfl, k⟩
            refine sp_istore_n 62 rfl rfl rfl ?_
            refine sp_goto rfl ?_
            exact k
          · have k := k.1 q
            refine sp_aload_n 50 rfl rfl rfl ?_
            refine sc_V 53 rfl rfl rfl rfl rfl (Nat.le_refl _) (Nat.le_refl _) rfl ?_
            refine mm_s_mono _ _ _ _ _ _ ?_ k
            rintro r_ h_ ⟨x9, I9, J9, rfl, rfl, k⟩
            refine sp_goto rfl ?_
            refine sp_istore_n 62 rfl rfl rfl ?_
            refine sp_goto rfl ?_
            exact k
theorem sg_X11_readGuard {SL : Nat} {xs : Nat → Int32} {d : Nat} {p s q : Nat} {Q : Option Value → mm_H → Prop}  {I : Nat → Nat → Int32} {J : Nat → Nat → Int64}  (k : (mm_s SL xs (d + 4) 172 [.ref 65] (hp p s q I J) (fun r_ h_ => ∃ I1 J1, r_ = none ∧ h_ = hp p s q I1 J1 ∧ (mm_s SL xs (d + 4) 177 [.ref 65, .int (Int32.ofInt 0), .int (Int32.ofInt 59)] (hp p s q I1 J1) (fun r_ h_ => ∃ x2 I2 J2, r_ = some (.int x2) ∧ h_ = hp p s q I2 J2 ∧ (mm_s SL xs (d + 4) 178 [.ref 65, .long (Int64.ofInt 29807), .int x2, .int (Int32.ofInt 59)] (hp p s q I2 J2) (fun r_ h_ => ∃ x3 I3 J3, r_ = some (.int x3) ∧ h_ = hp p s q I3 J3 ∧ (((I3 65 2) ≤ Int32.ofInt 0 → (vp_in (I3 65 37) 8 ∧ Q none (hp p s q (mm_u (mm_u (mm_u I3 75 (((I3 65 37)).toNatClampNeg) x2) 76 (((I3 65 37)).toNatClampNeg) x3) 65 37 ((I3 65 37) + (Int32.ofInt 1))) J3))) ∧ (¬ ((I3 65 2) ≤ Int32.ofInt 0) → Q none (hp p s q I3 J3)))))))))) : mm_s SL xs (d + 5) 192 [.ref 65] (hp p s q I J) Q := by
  refine e_X11_readGuard rfl ?_
  refine sp_aload_n 1 rfl rfl rfl ?_
  refine sc_V 4 rfl rfl rfl rfl rfl (Nat.le_refl _) (Nat.le_refl _) rfl ?_
  refine mm_s_mono _ _ _ _ _ _ ?_ k
  rintro r_ h_ ⟨I1, J1, rfl, rfl, k⟩
  refine sp_aload_n 5 rfl rfl rfl ?_
  refine sp_iconst 6 rfl rfl ?_
  refine sp_bipush 8 rfl rfl ?_
  refine sp_I (y := Int32.ofInt 59) rfl ?_
  refine sc_V 11 rfl rfl rfl rfl rfl (Nat.le_refl _) (Nat.le_refl _) rfl ?_
  refine mm_s_mono _ _ _ _ _ _ ?_ k
  rintro r_ h_ ⟨x2, I2, J2, rfl, rfl, k⟩
  refine sp_istore_n 12 rfl rfl rfl ?_
  refine sp_aload_n 13 rfl rfl rfl ?_
  refine sp_ldc2 16 rfl rfl ?_
  refine sp_iload_n 17 rfl rfl rfl ?_
  refine sp_bipush 19 rfl rfl ?_
  refine sp_I (y := Int32.ofInt 59) rfl ?_
  refine sc_V 22 rfl rfl rfl rfl rfl (Nat.le_refl _) (Nat.le_refl _) rfl ?_
  refine mm_s_mono _ _ _ _ _ _ ?_ k
  rintro r_ h_ ⟨x3, I3, J3, rfl, rfl, k⟩
  refine sp_istore_n 23 rfl rfl rfl ?_
  refine sp_aload_n 24 rfl rfl rfl ?_
  refine hq_getI 27 rfl rfl rfl ?_
  refine sp_if_le 30 rfl rfl (fun q => ?_) (fun q => ?_)
  · have k := k.1 q
    refine sp_aload_n 32 rfl rfl rfl ?_
    refine hq_getR 35 rfl rfl rfl rfl ?_
    refine sp_aload_n 36 rfl rfl rfl ?_
    refine hq_getI 39 rfl rfl rfl ?_
    refine sp_iload_n 40 rfl rfl rfl ?_
    have n1_ := k.1
    have k := k.2
    refine hq_iast 41 rfl rfl n1_ rfl ?_
    refine sp_aload_n 42 rfl rfl rfl ?_
    refine hq_getR 45 rfl rfl rfl rfl ?_
    refine sp_aload_n 46 rfl rfl rfl ?_
    refine hq_getI 49 rfl rfl rfl ?_
    refine sp_I (y := (I3 65 37)) (by simp [mm_u]) ?_
    refine sp_iload_n 50 rfl rfl rfl ?_
    refine hq_iast 51 rfl rfl n1_ rfl ?_
    refine sp_aload_n 52 rfl rfl rfl ?_
    refine sp_dup 53 rfl rfl rfl ?_
    refine hq_getI 56 rfl rfl rfl ?_
    refine sp_I (y := (I3 65 37)) (by simp [mm_u]) ?_
    refine sp_iconst 57 rfl rfl ?_
    refine sp_iadd 58 rfl rfl ?_
    refine hq_putI 61 rfl rfl rfl ?_
    exact st_vret rfl rfl (Nat.le_refl _) (Nat.le_refl _) k
  · have k := k.2 q
    exact st_vret rfl rfl (Nat.le_refl _) (Nat.le_refl _) k
def w_X11_readPerson_8 (SL : Nat) (xs : Nat → Int32) (d : Nat) (p s q : Nat) (Q : Option Value → mm_H → Prop) (v1 : Int32) (v2 : Int32) (I : Nat → Nat → Int32) (J : Nat → Nat → Int64) : Prop := mm_w SL xs (mm_s SL xs (d + 4)) mm_am kX11_readPerson 0 0 none Q 8 [some (.ref 65), some (.int v1), some (.int v2), none, none] [] (hp p s q I J) 0 0
theorem sg_X11_readPerson {SL : Nat} {xs : Nat → Int32} {d : Nat} {p s q : Nat} {Q : Option Value → mm_H → Prop}  {I : Nat → Nat → Int32} {J : Nat → Nat → Int64}  (k : (mm_s SL xs (d + 4) 172 [.ref 65] (hp p s q I J) (fun r_ h_ => ∃ I1 J1, r_ = none ∧ h_ = hp p s q I1 J1 ∧ w_X11_readPerson_8 SL xs d p s q Q (Int32.ofInt 0) (Int32.ofInt 0) I1 J1))) : mm_s SL xs (d + 5) 194 [.ref 65] (hp p s q I J) Q := by
  refine e_X11_readPerson rfl ?_
  refine sp_aload_n 1 rfl rfl rfl ?_
  refine sc_V 4 rfl rfl rfl rfl rfl (Nat.le_refl _) (Nat.le_refl _) rfl ?_
  refine mm_s_mono _ _ _ _ _ _ ?_ k
  rintro r_ h_ ⟨I1, J1, rfl, rfl, k⟩
  refine sp_iconst 5 rfl rfl ?_
  refine sp_istore_n 6 rfl rfl rfl ?_
  refine sp_iconst 7 rfl rfl ?_
  refine sp_istore_n 8 rfl rfl rfl ?_
  exact k
theorem sg_X11_readPerson_8 {SL : Nat} {xs : Nat → Int32} {d : Nat} {p s q : Nat} {Q : Option Value → mm_H → Prop} {v1 : Int32} {v2 : Int32} {I : Nat → Nat → Int32} {J : Nat → Nat → Int64}  (k : (((I 65 38) ≤ v2 → (mm_s SL xs (d + 4) 175 [.ref 65] (hp p s q I J) (fun r_ h_ => ∃ x1 I1 J1, r_ = some (.int x1) ∧ h_ = hp p s q I1 J1 ∧ ((x1 = Int32.ofInt 0 → (mm_s SL xs (d + 4) 173 [.ref 65, .int (Int32.ofInt 2)] (hp p s q I1 J1) (fun r_ h_ => ∃ I9 J9, r_ = none ∧ h_ = hp p s q I9 J9 ∧ (((I9 65 2) = Int32.ofInt 0 → (mm_s SL xs (d + 4) 172 [.ref 65] (hp p s q I9 J9) (fun r_ h_ => ∃ I11 J11, r_ = none ∧ h_ = hp p s q I11 J11 ∧ (mm_s SL xs (d + 4) 178 [.ref 65, .long (Int64.ofInt 512970880104), .int (Int32.ofInt 0), .int (Int32.ofInt 999)] (hp p s q I11 J11) (fun r_ h_ => ∃ x12 I12 J12, r_ = some (.int x12) ∧ h_ = hp p s q I12 J12 ∧ (((I12 65 2) ≤ Int32.ofInt 0 → (vp_in (I12 65 38) 9 ∧ Q none (hp p s q (mm_u (mm_u I12 77 (((I12 65 38)).toNatClampNeg) x12) 65 38 ((I12 65 38) + (Int32.ofInt 1))) (mm_u J12 86 (((I12 65 38)).toNatClampNeg) (J9 65 9))))) ∧ (¬ ((I12 65 2) ≤ Int32.ofInt 0) → Q none (hp p s q I12 J12)))))))) ∧ (¬ ((I9 65 2) = Int32.ofInt 0) → (mm_s SL xs (d + 4) 178 [.ref 65, .long (Int64.ofInt 512970880104), .int (Int32.ofInt 0), .int (Int32.ofInt 999)] (hp p s q I9 J9) (fun r_ h_ => ∃ x10 I10 J10, r_ = some (.int x10) ∧ h_ = hp p s q I10 J10 ∧ (((I10 65 2) ≤ Int32.ofInt 0 → (vp_in (I10 65 38) 9 ∧ Q none (hp p s q (mm_u (mm_u I10 77 (((I10 65 38)).toNatClampNeg) x10) 65 38 ((I10 65 38) + (Int32.ofInt 1))) (mm_u J10 86 (((I10 65 38)).toNatClampNeg) (J9 65 9))))) ∧ (¬ ((I10 65 2) ≤ Int32.ofInt 0) → Q none (hp p s q I10 J10)))))))))) ∧ (¬ (x1 = Int32.ofInt 0) → ((v1 = Int32.ofInt 0 → (((I1 65 2) = Int32.ofInt 0 → (mm_s SL xs (d + 4) 172 [.ref 65] (hp p s q I1 J1) (fun r_ h_ => ∃ I3 J3, r_ = none ∧ h_ = hp p s q I3 J3 ∧ (mm_s SL xs (d + 4) 178 [.ref 65, .long (Int64.ofInt 512970880104), .int (Int32.ofInt 0), .int (Int32.ofInt 999)] (hp p s q I3 J3) (fun r_ h_ => ∃ x4 I4 J4, r_ = some (.int x4) ∧ h_ = hp p s q I4 J4 ∧ (((I4 65 2) ≤ Int32.ofInt 0 → (vp_in (I4 65 38) 9 ∧ Q none (hp p s q (mm_u (mm_u I4 77 (((I4 65 38)).toNatClampNeg) x4) 65 38 ((I4 65 38) + (Int32.ofInt 1))) (mm_u J4 86 (((I4 65 38)).toNatClampNeg) (J1 65 9))))) ∧ (¬ ((I4 65 2) ≤ Int32.ofInt 0) → Q none (hp p s q I4 J4)))))))) ∧ (¬ ((I1 65 2) = Int32.ofInt 0) → (mm_s SL xs (d + 4) 178 [.ref 65, .long (Int64.ofInt 512970880104), .int (Int32.ofInt 0), .int (Int32.ofInt 999)] (hp p s q I1 J1) (fun r_ h_ => ∃ x2 I2 J2, r_ = some (.int x2) ∧ h_ = hp p s q I2 J2 ∧ (((I2 65 2) ≤ Int32.ofInt 0 → (vp_in (I2 65 38) 9 ∧ Q none (hp p s q (mm_u (mm_u I2 77 (((I2 65 38)).toNatClampNeg) x2) 65 38 ((I2 65 38) + (Int32.ofInt 1))) (mm_u J2 86 (((I2 65 38)).toNatClampNeg) (J1 65 9))))) ∧ (¬ ((I2 65 2) ≤ Int32.ofInt 0) → Q none (hp p s q I2 J2)))))))) ∧ (¬ (v1 = Int32.ofInt 0) → (mm_s SL xs (d + 4) 173 [.ref 65, .int (Int32.ofInt 3)] (hp p s q I1 J1) (fun r_ h_ => ∃ I5 J5, r_ = none ∧ h_ = hp p s q I5 J5 ∧ (((I5 65 2) = Int32.ofInt 0 → (mm_s SL xs (d + 4) 172 [.ref 65] (hp p s q I5 J5) (fun r_ h_ => ∃ I7 J7, r_ = none ∧ h_ = hp p s q I7 J7 ∧ (mm_s SL xs (d + 4) 178 [.ref 65, .long (Int64.ofInt 512970880104), .int (Int32.ofInt 0), .int (Int32.ofInt 999)] (hp p s q I7 J7) (fun r_ h_ => ∃ x8 I8 J8, r_ = some (.int x8) ∧ h_ = hp p s q I8 J8 ∧ (((I8 65 2) ≤ Int32.ofInt 0 → (vp_in (I8 65 38) 9 ∧ Q none (hp p s q (mm_u (mm_u I8 77 (((I8 65 38)).toNatClampNeg) x8) 65 38 ((I8 65 38) + (Int32.ofInt 1))) (mm_u J8 86 (((I8 65 38)).toNatClampNeg) (J5 65 9))))) ∧ (¬ ((I8 65 2) ≤ Int32.ofInt 0) → Q none (hp p s q I8 J8)))))))) ∧ (¬ ((I5 65 2) = Int32.ofInt 0) → (mm_s SL xs (d + 4) 178 [.ref 65, .long (Int64.ofInt 512970880104), .int (Int32.ofInt 0), .int (Int32.ofInt 999)] (hp p s q I5 J5) (fun r_ h_ => ∃ x6 I6 J6, r_ = some (.int x6) ∧ h_ = hp p s q I6 J6 ∧ (((I6 65 2) ≤ Int32.ofInt 0 → (vp_in (I6 65 38) 9 ∧ Q none (hp p s q (mm_u (mm_u I6 77 (((I6 65 38)).toNatClampNeg) x6) 65 38 ((I6 65 38) + (Int32.ofInt 1))) (mm_u J6 86 (((I6 65 38)).toNatClampNeg) (J5 65 9))))) ∧ (¬ ((I6 65 2) ≤ Int32.ofInt 0) → Q none (hp p s q I6 J6)))))))))))))))) ∧ (¬ ((I 65 38) ≤ v2) → ((v1 = Int32.ofInt 0 → (vp_in v2 9 ∧ (((J 86 ((v2).toNatClampNeg)) = (J 65 9) → w_X11_readPerson_8 SL xs d p s q Q (Int32.ofInt 1) (v2 + Int32.ofInt 1) I J) ∧ (¬ ((J 86 ((v2).toNatClampNeg)) = (J 65 9)) → w_X11_readPerson_8 SL xs d p s q Q (Int32.ofInt 0) (v2 + Int32.ofInt 1) I J)))) ∧ (¬ (v1 = Int32.ofInt 0) → w_X11_readPerson_8 SL xs d p s q Q (Int32.ofInt 1) (v2 + Int32.ofInt 1) I J))))) : w_X11_readPerson_8 SL xs d p s q Q v1 v2 I J := by
  unfold w_X11_readPerson_8
  refine sp_iload_n 9 rfl rfl rfl ?_
  refine sp_aload_n 10 rfl rfl rfl ?_
  refine hq_getI 13 rfl rfl rfl ?_
  refine sp_ic_ge 16 rfl rfl (fun q => ?_) (fun q => ?_)
  · have k := k.1 q
    refine sp_aload_n 47 rfl rfl rfl ?_
    refine sc_V 50 rfl rfl rfl rfl rfl (Nat.le_refl _) (Nat.le_refl _) rfl ?_
    refine mm_s_mono _ _ _ _ _ _ ?_ k
    rintro r_ h_ ⟨x1, I1, J1, rfl, rfl, k⟩
    refine sp_if_ne 53 rfl rfl (fun q => ?_) (fun q => ?_)
    · have k := k.2 q
      refine sp_iload_n 62 rfl rfl rfl ?_
      refine sp_if_eq 65 rfl rfl (fun q => ?_) (fun q => ?_)
      · have k := k.1 q
        refine sp_aload_n 71 rfl rfl rfl ?_
        refine hq_getJ 74 rfl rfl rfl ?_
        refine sp_lstore_n 75 rfl rfl rfl ?_
        refine sp_aload_n 76 rfl rfl rfl ?_
        refine hq_getI 79 rfl rfl rfl ?_
        refine sp_if_ne 82 rfl rfl (fun q => ?_) (fun q => ?_)
        · have k := k.2 q
          refine sp_aload_n 87 rfl rfl rfl ?_
          refine sp_ldc2 90 rfl rfl ?_
          refine sp_iconst 91 rfl rfl ?_
          refine sp_sipush 94 rfl rfl ?_
          refine sp_I (y := Int32.ofInt 999) rfl ?_
          refine sc_V 97 rfl rfl rfl rfl rfl (Nat.le_refl _) (Nat.le_refl _) rfl ?_
          refine mm_s_mono _ _ _ _ _ _ ?_ k
          rintro r_ h_ ⟨x2, I2, J2, rfl, rfl, k⟩
          refine sp_istore 99 rfl rfl rfl ?_
          refine sp_aload_n 100 rfl rfl rfl ?_
          refine hq_getI 103 rfl rfl rfl ?_
          refine sp_if_le 106 rfl rfl (fun q => ?_) (fun q => ?_)
          · have k := k.1 q
            refine sp_aload_n 108 rfl rfl rfl ?_
            refine hq_getR 111 rfl rfl rfl rfl ?_
            refine sp_aload_n 112 rfl rfl rfl ?_
            refine hq_getI 115 rfl rfl rfl ?_
            refine sp_lload_n 116 rfl rfl rfl ?_
            have n1_ := k.1
            have k := k.2
            refine hq_last 117 rfl rfl n1_ rfl ?_
            refine sp_aload_n 118 rfl rfl rfl ?_
            refine hq_getR 121 rfl rfl rfl rfl ?_
            refine sp_aload_n 122 rfl rfl rfl ?_
            refine hq_getI 125 rfl rfl rfl ?_
            refine sp_iload 127 rfl rfl rfl ?_
            refine hq_iast 128 rfl rfl n1_ rfl ?_
            refine sp_aload_n 129 rfl rfl rfl ?_
            refine sp_dup 130 rfl rfl rfl ?_
            refine hq_getI 133 rfl rfl rfl ?_
            refine sp_I (y := (I2 65 38)) (by simp [mm_u]) ?_
            refine sp_iconst 134 rfl rfl ?_
            refine sp_iadd 135 rfl rfl ?_
            refine hq_putI 138 rfl rfl rfl ?_
            exact st_vret rfl rfl (Nat.le_refl _) (Nat.le_refl _) k
          · have k := k.2 q
            exact st_vret rfl rfl (Nat.le_refl _) (Nat.le_refl _) k
        · have k := k.1 q
          refine sp_aload_n 83 rfl rfl rfl ?_
          refine sc_V 86 rfl rfl rfl rfl rfl (Nat.le_refl _) (Nat.le_refl _) rfl ?_
          refine mm_s_mono _ _ _ _ _ _ ?_ k
          rintro r_ h_ ⟨I3, J3, rfl, rfl, k⟩
          refine sp_aload_n 87 rfl rfl rfl ?_
          refine sp_ldc2 90 rfl rfl ?_
          refine sp_iconst 91 rfl rfl ?_
          refine sp_sipush 94 rfl rfl ?_
          refine sp_I (y := Int32.ofInt 999) rfl ?_
          refine sc_V 97 rfl rfl rfl rfl rfl (Nat.le_refl _) (Nat.le_refl _) rfl ?_
          refine mm_s_mono _ _ _ _ _ _ ?_ k
          rintro r_ h_ ⟨x4, I4, J4, rfl, rfl, k⟩
          refine sp_istore 99 rfl rfl rfl ?_
          refine sp_aload_n 100 rfl rfl rfl ?_
          refine hq_getI 103 rfl rfl rfl ?_
          refine sp_if_le 106 rfl rfl (fun q => ?_) (fun q => ?_)
          · have k := k.1 q
            refine sp_aload_n 108 rfl rfl rfl ?_
            refine hq_getR 111 rfl rfl rfl rfl ?_
            refine sp_aload_n 112 rfl rfl rfl ?_
            refine hq_getI 115 rfl rfl rfl ?_
            refine sp_lload_n 116 rfl rfl rfl ?_
            have n2_ := k.1
            have k := k.2
            refine hq_last 117 rfl rfl n2_ rfl ?_
            refine sp_aload_n 118 rfl rfl rfl ?_
            refine hq_getR 121 rfl rfl rfl rfl ?_
            refine sp_aload_n 122 rfl rfl rfl ?_
            refine hq_getI 125 rfl rfl rfl ?_
            refine sp_iload 127 rfl rfl rfl ?_
            refine hq_iast 128 rfl rfl n2_ rfl ?_
            refine sp_aload_n 129 rfl rfl rfl ?_
            refine sp_dup 130 rfl rfl rfl ?_
            refine hq_getI 133 rfl rfl rfl ?_
            refine sp_I (y := (I4 65 38)) (by simp [mm_u]) ?_
            refine sp_iconst 134 rfl rfl ?_
            refine sp_iadd 135 rfl rfl ?_
            refine hq_putI 138 rfl rfl rfl ?_
            exact st_vret rfl rfl (Nat.le_refl _) (Nat.le_refl _) k
          · have k := k.2 q
            exact st_vret rfl rfl (Nat.le_refl _) (Nat.le_refl _) k
      · have k := k.2 q
        refine sp_aload_n 66 rfl rfl rfl ?_
        refine sp_iconst 67 rfl rfl ?_
        refine sc_V 70 rfl rfl rfl rfl rfl (Nat.le_refl _) (Nat.le_refl _) rfl ?_
        refine mm_s_mono _ _ _ _ _ _ ?_ k
        rintro r_ h_ ⟨I5, J5, rfl, rfl, k⟩
        refine sp_aload_n 71 rfl rfl rfl ?_
        refine hq_getJ 74 rfl rfl rfl ?_
        refine sp_lstore_n 75 rfl rfl rfl ?_
        refine sp_aload_n 76 rfl rfl rfl ?_
        refine hq_getI 79 rfl rfl rfl ?_
        refine sp_if_ne 82 rfl rfl (fun q => ?_) (fun q => ?_)
        · have k := k.2 q
          refine sp_aload_n 87 rfl rfl rfl ?_
          refine sp_ldc2 90 rfl rfl ?_
          refine sp_iconst 91 rfl rfl ?_
          refine sp_sipush 94 rfl rfl ?_
          refine sp_I (y := Int32.ofInt 999) rfl ?_
          refine sc_V 97 rfl rfl rfl rfl rfl (Nat.le_refl _) (Nat.le_refl _) rfl ?_
          refine mm_s_mono _ _ _ _ _ _ ?_ k
          rintro r_ h_ ⟨x6, I6, J6, rfl, rfl, k⟩
          refine sp_istore 99 rfl rfl rfl ?_
          refine sp_aload_n 100 rfl rfl rfl ?_
          refine hq_getI 103 rfl rfl rfl ?_
          refine sp_if_le 106 rfl rfl (fun q => ?_) (fun q => ?_)
          · have k := k.1 q
            refine sp_aload_n 108 rfl rfl rfl ?_
            refine hq_getR 111 rfl rfl rfl rfl ?_
            refine sp_aload_n 112 rfl rfl rfl ?_
            refine hq_getI 115 rfl rfl rfl ?_
            refine sp_lload_n 116 rfl rfl rfl ?_
            have n3_ := k.1
            have k := k.2
            refine hq_last 117 rfl rfl n3_ rfl ?_
            refine sp_aload_n 118 rfl rfl rfl ?_
            refine hq_getR 121 rfl rfl rfl rfl ?_
            refine sp_aload_n 122 rfl rfl rfl ?_
            refine hq_getI 125 rfl rfl rfl ?_
            refine sp_iload 127 rfl rfl rfl ?_
            refine hq_iast 128 rfl rfl n3_ rfl ?_
            refine sp_aload_n 129 rfl rfl rfl ?_
            refine sp_dup 130 rfl rfl rfl ?_
            refine hq_getI 133 rfl rfl rfl ?_
            refine sp_I (y := (I6 65 38)) (by simp [mm_u]) ?_
            refine sp_iconst 134 rfl rfl ?_
            refine sp_iadd 135 rfl rfl ?_
            refine hq_putI 138 rfl rfl rfl ?_
            exact st_vret rfl rfl (Nat.le_refl _) (Nat.le_refl _) k
          · have k := k.2 q
            exact st_vret rfl rfl (Nat.le_refl _) (Nat.le_refl _) k
        · have k := k.1 q
          refine sp_aload_n 83 rfl rfl rfl ?_
          refine sc_V 86 rfl rfl rfl rfl rfl (Nat.le_refl _) (Nat.le_refl _) rfl ?_
          refine mm_s_mono _ _ _ _ _ _ ?_ k
          rintro r_ h_ ⟨I7, J7, rfl, rfl, k⟩
          refine sp_aload_n 87 rfl rfl rfl ?_
          refine sp_ldc2 90 rfl rfl ?_
          refine sp_iconst 91 rfl rfl ?_
          refine sp_sipush 94 rfl rfl ?_
          refine sp_I (y := Int32.ofInt 999) rfl ?_
          refine sc_V 97 rfl rfl rfl rfl rfl (Nat.le_refl _) (Nat.le_refl _) rfl ?_
          refine mm_s_mono _ _ _ _ _ _ ?_ k
          rintro r_ h_ ⟨x8, I8, J8, rfl, rfl, k⟩
          refine sp_istore 99 rfl rfl rfl ?_
          refine sp_aload_n 100 rfl rfl rfl ?_
          refine hq_getI 103 rfl rfl rfl ?_
          refine sp_if_le 106 rfl rfl (fun q => ?_) (fun q => ?_)
          · have k := k.1 q
            refine sp_aload_n 108 rfl rfl rfl ?_
            refine hq_getR 111 rfl rfl rfl rfl ?_
            refine sp_aload_n 112 rfl rfl rfl ?_
            refine hq_getI 115 rfl rfl rfl ?_
            refine sp_lload_n 116 rfl rfl rfl ?_
            have n4_ := k.1
            have k := k.2
            refine hq_last 117 rfl rfl n4_ rfl ?_
            refine sp_aload_n 118 rfl rfl rfl ?_
            refine hq_getR 121 rfl rfl rfl rfl ?_
            refine sp_aload_n 122 rfl rfl rfl ?_
            refine hq_getI 125 rfl rfl rfl ?_
            refine sp_iload 127 rfl rfl rfl ?_
            refine hq_iast 128 rfl rfl n4_ rfl ?_
            refine sp_aload_n 129 rfl rfl rfl ?_
            refine sp_dup 130 rfl rfl rfl ?_
            refine hq_getI 133 rfl rfl rfl ?_
            refine sp_I (y := (I8 65 38)) (by simp [mm_u]) ?_
            refine sp_iconst 134 rfl rfl ?_
            refine sp_iadd 135 rfl rfl ?_
            refine hq_putI 138 rfl rfl rfl ?_
            exact st_vret rfl rfl (Nat.le_refl _) (Nat.le_refl _) k
          · have k := k.2 q
            exact st_vret rfl rfl (Nat.le_refl _) (Nat.le_refl _) k
    · have k := k.1 q
      refine sp_aload_n 54 rfl rfl rfl ?_
      refine sp_iconst 55 rfl rfl ?_
      refine sc_V 58 rfl rfl rfl rfl rfl (Nat.le_refl _) (Nat.le_refl _) rfl ?_
      refine mm_s_mono _ _ _ _ _ _ ?_ k
      rintro r_ h_ ⟨I9, J9, rfl, rfl, k⟩
      refine sp_goto rfl ?_
      refine sp_aload_n 71 rfl rfl rfl ?_
      refine hq_getJ 74 rfl rfl rfl ?_
      refine sp_lstore_n 75 rfl rfl rfl ?_
      refine sp_aload_n 76 rfl rfl rfl ?_
      refine hq_getI 79 rfl rfl rfl ?_
      refine sp_if_ne 82 rfl rfl (fun q => ?_) (fun q => ?_)
      · have k := k.2 q
        refine sp_aload_n 87 rfl rfl rfl ?_
        refine sp_ldc2 90 rfl rfl ?_
        refine sp_iconst 91 rfl rfl ?_
        refine sp_sipush 94 rfl rfl ?_
        refine sp_I (y := Int32.ofInt 999) rfl ?_
        refine sc_V 97 rfl rfl rfl rfl rfl (Nat.le_refl _) (Nat.le_refl _) rfl ?_
        refine mm_s_mono _ _ _ _ _ _ ?_ k
        rintro r_ h_ ⟨x10, I10, J10, rfl, rfl, k⟩
        refine sp_istore 99 rfl rfl rfl ?_
        refine sp_aload_n 100 rfl rfl rfl ?_
        refine hq_getI 103 rfl rfl rfl ?_
        refine sp_if_le 106 rfl rfl (fun q => ?_) (fun q => ?_)
        · have k := k.1 q
          refine sp_aload_n 108 rfl rfl rfl ?_
          refine hq_getR 111 rfl rfl rfl rfl ?_
          refine sp_aload_n 112 rfl rfl rfl ?_
          refine hq_getI 115 rfl rfl rfl ?_
          refine sp_lload_n 116 rfl rfl rfl ?_
          have n5_ := k.1
          have k := k.2
          refine hq_last 117 rfl rfl n5_ rfl ?_
          refine sp_aload_n 118 rfl rfl rfl ?_
          refine hq_getR 121 rfl rfl rfl rfl ?_
          refine sp_aload_n 122 rfl rfl rfl ?_
          refine hq_getI 125 rfl rfl rfl ?_
          refine sp_iload 127 rfl rfl rfl ?_
          refine hq_iast 128 rfl rfl n5_ rfl ?_
          refine sp_aload_n 129 rfl rfl rfl ?_
          refine sp_dup 130 rfl rfl rfl ?_
          refine hq_getI 133 rfl rfl rfl ?_
          refine sp_I (y := (I10 65 38)) (by simp [mm_u]) ?_
          refine sp_iconst 134 rfl rfl ?_
          refine sp_iadd 135 rfl rfl ?_
          refine hq_putI 138 rfl rfl rfl ?_
          exact st_vret rfl rfl (Nat.le_refl _) (Nat.le_refl _) k
        · have k := k.2 q
          exact st_vret rfl rfl (Nat.le_refl _) (Nat.le_refl _) k
      · have k := k.1 q
        refine sp_aload_n 83 rfl rfl rfl ?_
        refine sc_V 86 rfl rfl rfl rfl rfl (Nat.le_refl _) (Nat.le_refl _) rfl ?_
        refine mm_s_mono _ _ _ _ _ _ ?_ k
        rintro r_ h_ ⟨I11, J11, rfl, rfl, k⟩
        refine sp_aload_n 87 rfl rfl rfl ?_
        refine sp_ldc2 90 rfl rfl ?_
        refine sp_iconst 91 rfl rfl ?_
        refine sp_sipush 94 rfl rfl ?_
        refine sp_I (y := Int32.ofInt 999) rfl ?_
        refine sc_V 97 rfl rfl rfl rfl rfl (Nat.le_refl _) (Nat.le_refl _) rfl ?_
        refine mm_s_mono _ _ _ _ _ _ ?_ k
        rintro r_ h_ ⟨x12, I12, J12, rfl, rfl, k⟩
        refine sp_istore 99 rfl rfl rfl ?_
        refine sp_aload_n 100 rfl rfl rfl ?_
        refine hq_getI 103 rfl rfl rfl ?_
        refine sp_if_le 106 rfl rfl (fun q => ?_) (fun q => ?_)
        · have k := k.1 q
          refine sp_aload_n 108 rfl rfl rfl ?_
          refine hq_getR 111 rfl rfl rfl rfl ?_
          refine sp_aload_n 112 rfl rfl rfl ?_
          refine hq_getI 115 rfl rfl rfl ?_
          refine sp_lload_n 116 rfl rfl rfl ?_
          have n6_ := k.1
          have k := k.2
          refine hq_last 117 rfl rfl n6_ rfl ?_
          refine sp_aload_n 118 rfl rfl rfl ?_
          refine hq_getR 121 rfl rfl rfl rfl ?_
          refine sp_aload_n 122 rfl rfl rfl ?_
          refine hq_getI 125 rfl rfl rfl ?_
          refine sp_iload 127 rfl rfl rfl ?_
          refine hq_iast 128 rfl rfl n6_ rfl ?_
          refine sp_aload_n 129 rfl rfl rfl ?_
          refine sp_dup 130 rfl rfl rfl ?_
          refine hq_getI 133 rfl rfl rfl ?_
          refine sp_I (y := (I12 65 38)) (by simp [mm_u]) ?_
          refine sp_iconst 134 rfl rfl ?_
          refine sp_iadd 135 rfl rfl ?_
          refine hq_putI 138 rfl rfl rfl ?_
          exact st_vret rfl rfl (Nat.le_refl _) (Nat.le_refl _) k
        · have k := k.2 q
          exact st_vret rfl rfl (Nat.le_refl _) (Nat.le_refl _) k
  · have k := k.2 q
    refine sp_iload_n 17 rfl rfl rfl ?_
    refine sp_if_ne 20 rfl rfl (fun q => ?_) (fun q => ?_)
    · have k := k.2 q
      refine sp_iconst 35 rfl rfl ?_
      refine sp_goto rfl ?_
      refine sp_istore_n 40 rfl rfl rfl ?_
      refine sp_iinc 43 rfl rfl rfl rfl ?_
      refine sp_goto rfl ?_
      exact k
    · have k := k.1 q
      refine sp_aload_n 21 rfl rfl rfl ?_
      refine hq_getR 24 rfl rfl rfl rfl ?_
      refine sp_iload_n 25 rfl rfl rfl ?_
      have n7_ := k.1
      have k := k.2
      refine hq_lald 26 rfl rfl n7_ rfl ?_
      refine sp_aload_n 27 rfl rfl rfl ?_
      refine hq_getJ 30 rfl rfl rfl ?_
      refine sp_lcmp 31 rfl rfl ?_
      refine sp_if_ne 34 rfl rfl (fun q => ?_) (fun q => ?_)
      · have k := k.2 (fun z => q ((lg_cmp_eq _ _).mpr z))
        refine sp_iconst 39 rfl rfl ?_
        refine sp_istore_n 40 rfl rfl rfl ?_
        refine sp_iinc 43 rfl rfl rfl rfl ?_
        refine sp_goto rfl ?_
        exact k
      · have k := k.1 ((lg_cmp_eq _ _).mp q)
        refine sp_iconst 35 rfl rfl ?_
        refine sp_goto rfl ?_
        refine sp_istore_n 40 rfl rfl rfl ?_
        refine sp_iinc 43 rfl rfl rfl rfl ?_
        refine sp_goto rfl ?_
        exact k
def w_X11_readDrawn_8 (SL : Nat) (xs : Nat → Int32) (d : Nat) (p s q : Nat) (Q : Option Value → mm_H → Prop) (v1 : Int32) (v2 : Int32) (I : Nat → Nat → Int32) (J : Nat → Nat → Int64) : Prop := mm_w SL xs (mm_s SL xs (d + 4)) mm_am kX11_readDrawn 0 0 none Q 8 [some (.ref 65), some (.int v1), some (.int v2), none] [] (hp p s q I J) 0 0
theorem sg_X11_readDrawn {SL : Nat} {xs : Nat → Int32} {d : Nat} {p s q : Nat} {Q : Option Value → mm_H → Prop}  {I : Nat → Nat → Int32} {J : Nat → Nat → Int64}  (k : (mm_s SL xs (d + 4) 172 [.ref 65] (hp p s q I J) (fun r_ h_ => ∃ I1 J1, r_ = none ∧ h_ = hp p s q I1 J1 ∧ w_X11_readDrawn_8 SL xs d p s q Q (Int32.ofInt 0) (Int32.ofInt 0) I1 J1))) : mm_s SL xs (d + 5) 195 [.ref 65] (hp p s q I J) Q := by
  refine e_X11_readDrawn rfl ?_
  refine sp_aload_n 1 rfl rfl rfl ?_
  refine sc_V 4 rfl rfl rfl rfl rfl (Nat.le_refl _) (Nat.le_refl _) rfl ?_
  refine mm_s_mono _ _ _ _ _ _ ?_ k
  rintro r_ h_ ⟨I1, J1, rfl, rfl, k⟩
  refine sp_iconst 5 rfl rfl ?_
  refine sp_istore_n 6 rfl rfl rfl ?_
  refine sp_iconst 7 rfl rfl ?_
  refine sp_istore_n 8 rfl rfl rfl ?_
  exact k
theorem sg_X11_readDrawn_8 {SL : Nat} {xs : Nat → Int32} {d : Nat} {p s q : Nat} {Q : Option Value → mm_H → Prop} {v1 : Int32} {v2 : Int32} {I : Nat → Nat → Int32} {J : Nat → Nat → Int64}  (k : (((I 65 39) ≤ v2 → (((I 65 6) = (Int32.ofInt 2) → ((v1 = Int32.ofInt 0 → (mm_s SL xs (d + 4) 177 [.ref 65, .int (Int32.ofInt 1), .int (Int32.ofInt 999)] (hp p s q I J) (fun r_ h_ => ∃ x3 I3 J3, r_ = some (.int x3) ∧ h_ = hp p s q I3 J3 ∧ (mm_s SL xs (d + 4) 178 [.ref 65, .long (Int64.ofInt 131277443786868), .int (Int32.ofInt 1), .int (Int32.ofInt 99)] (hp p s q I3 J3) (fun r_ h_ => ∃ x4 I4 J4, r_ = some (.int x4) ∧ h_ = hp p s q I4 J4 ∧ (((I4 65 2) ≤ Int32.ofInt 0 → (vp_in (I4 65 39) 12 ∧ Q none (hp p s q (mm_u (mm_u (mm_u I4 78 (((I4 65 39)).toNatClampNeg) x3) 79 (((I4 65 39)).toNatClampNeg) x4) 65 39 ((I4 65 39) + (Int32.ofInt 1))) J4))) ∧ (¬ ((I4 65 2) ≤ Int32.ofInt 0) → Q none (hp p s q I4 J4)))))))) ∧ (¬ (v1 = Int32.ofInt 0) → (mm_s SL xs (d + 4) 173 [.ref 65, .int (Int32.ofInt 3)] (hp p s q I J) (fun r_ h_ => ∃ I5 J5, r_ = none ∧ h_ = hp p s q I5 J5 ∧ (mm_s SL xs (d + 4) 177 [.ref 65, .int (Int32.ofInt 1), .int (Int32.ofInt 999)] (hp p s q I5 J5) (fun r_ h_ => ∃ x6 I6 J6, r_ = some (.int x6) ∧ h_ = hp p s q I6 J6 ∧ (mm_s SL xs (d + 4) 178 [.ref 65, .long (Int64.ofInt 131277443786868), .int (Int32.ofInt 1), .int (Int32.ofInt 99)] (hp p s q I6 J6) (fun r_ h_ => ∃ x7 I7 J7, r_ = some (.int x7) ∧ h_ = hp p s q I7 J7 ∧ (((I7 65 2) ≤ Int32.ofInt 0 → (vp_in (I7 65 39) 12 ∧ Q none (hp p s q (mm_u (mm_u (mm_u I7 78 (((I7 65 39)).toNatClampNeg) x6) 79 (((I7 65 39)).toNatClampNeg) x7) 65 39 ((I7 65 39) + (Int32.ofInt 1))) J7))) ∧ (¬ ((I7 65 2) ≤ Int32.ofInt 0) → Q none (hp p s q I7 J7)))))))))))) ∧ (¬ ((I 65 6) = (Int32.ofInt 2)) → (mm_s SL xs (d + 4) 177 [.ref 65, .int (Int32.ofInt 1), .int (Int32.ofInt 999)] (hp p s q I J) (fun r_ h_ => ∃ x1 I1 J1, r_ = some (.int x1) ∧ h_ = hp p s q I1 J1 ∧ (mm_s SL xs (d + 4) 178 [.ref 65, .long (Int64.ofInt 131277443786868), .int (Int32.ofInt 1), .int (Int32.ofInt 99)] (hp p s q I1 J1) (fun r_ h_ => ∃ x2 I2 J2, r_ = some (.int x2) ∧ h_ = hp p s q I2 J2 ∧ (((I2 65 2) ≤ Int32.ofInt 0 → (vp_in (I2 65 39) 12 ∧ Q none (hp p s q (mm_u (mm_u (mm_u I2 78 (((I2 65 39)).toNatClampNeg) x1) 79 (((I2 65 39)).toNatClampNeg) x2) 65 39 ((I2 65 39) + (Int32.ofInt 1))) J2))) ∧ (¬ ((I2 65 2) ≤ Int32.ofInt 0) → Q none (hp p s q I2 J2)))))))))) ∧ (¬ ((I 65 39) ≤ v2) → ((v1 = Int32.ofInt 0 → (vp_in v2 12 ∧ (((I 78 ((v2).toNatClampNeg)) = (I 65 8) → w_X11_readDrawn_8 SL xs d p s q Q (Int32.ofInt 1) (v2 + Int32.ofInt 1) I J) ∧ (¬ ((I 78 ((v2).toNatClampNeg)) = (I 65 8)) → w_X11_readDrawn_8 SL xs d p s q Q (Int32.ofInt 0) (v2 + Int32.ofInt 1) I J)))) ∧ (¬ (v1 = Int32.ofInt 0) → w_X11_readDrawn_8 SL xs d p s q Q (Int32.ofInt 1) (v2 + Int32.ofInt 1) I J))))) : w_X11_readDrawn_8 SL xs d p s q Q v1 v2 I J := by
  unfold w_X11_readDrawn_8
  refine sp_iload_n 9 rfl rfl rfl ?_
  refine sp_aload_n 10 rfl rfl rfl ?_
  refine hq_getI 13 rfl rfl rfl ?_
  refine sp_ic_ge 16 rfl rfl (fun q => ?_) (fun q => ?_)
  · have k := k.1 q
    refine sp_aload_n 46 rfl rfl rfl ?_
    refine hq_getI 49 rfl rfl rfl ?_
    refine sp_iconst 50 rfl rfl ?_
    refine sp_ic_ne 53 rfl rfl (fun q => ?_) (fun q => ?_)
    · have k := k.2 q
      refine sp_aload_n 63 rfl rfl rfl ?_
      refine sp_iconst 64 rfl rfl ?_
      refine sp_sipush 67 rfl rfl ?_
      refine sp_I (y := Int32.ofInt 999) rfl ?_
      refine sc_V 70 rfl rfl rfl rfl rfl (Nat.le_refl _) (Nat.le_refl _) rfl ?_
      refine mm_s_mono _ _ _ _ _ _ ?_ k
      rintro r_ h_ ⟨x1, I1, J1, rfl, rfl, k⟩
      refine sp_istore_n 71 rfl rfl rfl ?_
      refine sp_aload_n 72 rfl rfl rfl ?_
      refine sp_ldc2 75 rfl rfl ?_
      refine sp_iconst 76 rfl rfl ?_
      refine sp_bipush 78 rfl rfl ?_
      refine sp_I (y := Int32.ofInt 99) rfl ?_
      refine sc_V 81 rfl rfl rfl rfl rfl (Nat.le_refl _) (Nat.le_refl _) rfl ?_
      refine mm_s_mono _ _ _ _ _ _ ?_ k
      rintro r_ h_ ⟨x2, I2, J2, rfl, rfl, k⟩
      refine sp_istore_n 82 rfl rfl rfl ?_
      refine sp_aload_n 83 rfl rfl rfl ?_
      refine hq_getI 86 rfl rfl rfl ?_
      refine sp_if_le 89 rfl rfl (fun q => ?_) (fun q => ?_)
      · have k := k.1 q
        refine sp_aload_n 91 rfl rfl rfl ?_
        refine hq_getR 94 rfl rfl rfl rfl ?_
        refine sp_aload_n 95 rfl rfl rfl ?_
        refine hq_getI 98 rfl rfl rfl ?_
        refine sp_iload_n 99 rfl rfl rfl ?_
        have n1_ := k.1
        have k := k.2
        refine hq_iast 100 rfl rfl n1_ rfl ?_
        refine sp_aload_n 101 rfl rfl rfl ?_
        refine hq_getR 104 rfl rfl rfl rfl ?_
        refine sp_aload_n 105 rfl rfl rfl ?_
        refine hq_getI 108 rfl rfl rfl ?_
        refine sp_I (y := (I2 65 39)) (by simp [mm_u]) ?_
        refine sp_iload_n 109 rfl rfl rfl ?_
        refine hq_iast 110 rfl rfl n1_ rfl ?_
        refine sp_aload_n 111 rfl rfl rfl ?_
        refine sp_dup 112 rfl rfl rfl ?_
        refine hq_getI 115 rfl rfl rfl ?_
        refine sp_I (y := (I2 65 39)) (by simp [mm_u]) ?_
        refine sp_iconst 116 rfl rfl ?_
        refine sp_iadd 117 rfl rfl ?_
        refine hq_putI 120 rfl rfl rfl ?_
        exact st_vret rfl rfl (Nat.le_refl _) (Nat.le_refl _) k
      · have k := k.2 q
        exact st_vret rfl rfl (Nat.le_refl _) (Nat.le_refl _) k
    · have k := k.1 q
      refine sp_iload_n 54 rfl rfl rfl ?_
      refine sp_if_eq 57 rfl rfl (fun q => ?_) (fun q => ?_)
      · have k := k.1 q
        refine sp_aload_n 63 rfl rfl rfl ?_
        refine sp_iconst 64 rfl rfl ?_
        refine sp_sipush 67 rfl rfl ?_
        refine sp_I (y := Int32.ofInt 999) rfl ?_
        refine sc_V 70 rfl rfl rfl rfl rfl (Nat.le_refl _) (Nat.le_refl _) rfl ?_
        refine mm_s_mono _ _ _ _ _ _ ?_ k
        rintro r_ h_ ⟨x3, I3, J3, rfl, rfl, k⟩
        refine sp_istore_n 71 rfl rfl rfl ?_
        refine sp_aload_n 72 rfl rfl rfl ?_
        refine sp_ldc2 75 rfl rfl ?_
        refine sp_iconst 76 rfl rfl ?_
        refine sp_bipush 78 rfl rfl ?_
        refine sp_I (y := Int32.ofInt 99) rfl ?_
        refine sc_V 81 rfl rfl rfl rfl rfl (Nat.le_refl _) (Nat.le_refl _) rfl ?_
        refine mm_s_mono _ _ _ _ _ _ ?_ k
        rintro r_ h_ ⟨x4, I4, J4, rfl, rfl, k⟩
        refine sp_istore_n 82 rfl rfl rfl ?_
        refine sp_aload_n 83 rfl rfl rfl ?_
        refine hq_getI 86 rfl rfl rfl ?_
        refine sp_if_le 89 rfl rfl (fun q => ?_) (fun q => ?_)
        · have k := k.1 q
          refine sp_aload_n 91 rfl rfl rfl ?_
          refine hq_getR 94 rfl rfl rfl rfl ?_
          refine sp_aload_n 95 rfl rfl rfl ?_
          refine hq_getI 98 rfl rfl rfl ?_
          refine sp_iload_n 99 rfl rfl rfl ?_
          have n2_ := k.1
          have k := k.2
          refine hq_iast 100 rfl rfl n2_ rfl ?_
          refine sp_aload_n 101 rfl rfl rfl ?_
          refine hq_getR 104 rfl rfl rfl rfl ?_
          refine sp_aload_n 105 rfl rfl rfl ?_
          refine hq_getI 108 rfl rfl rfl ?_
          refine sp_I (y := (I4 65 39)) (by simp [mm_u]) ?_
          refine sp_iload_n 109 rfl rfl rfl ?_
          refine hq_iast 110 rfl rfl n2_ rfl ?_
          refine sp_aload_n 111 rfl rfl rfl ?_
          refine sp_dup 112 rfl rfl rfl ?_
          refine hq_getI 115 rfl rfl rfl ?_
          refine sp_I (y := (I4 65 39)) (by simp [mm_u]) ?_
          refine sp_iconst 116 rfl rfl ?_
          refine sp_iadd 117 rfl rfl ?_
          refine hq_putI 120 rfl rfl rfl ?_
          exact st_vret rfl rfl (Nat.le_refl _) (Nat.le_refl _) k
        · have k := k.2 q
          exact st_vret rfl rfl (Nat.le_refl _) (Nat.le_refl _) k
      · have k := k.2 q
        refine sp_aload_n 58 rfl rfl rfl ?_
        refine sp_iconst 59 rfl rfl ?_
        refine sc_V 62 rfl rfl rfl rfl rfl (Nat.le_refl _) (Nat.le_refl _) rfl ?_
        refine mm_s_mono _ _ _ _ _ _ ?_ k
        rintro r_ h_ ⟨I5, J5, rfl, rfl, k⟩
        refine sp_aload_n 63 rfl rfl rfl ?_
        refine sp_iconst 64 rfl rfl ?_
        refine sp_sipush 67 rfl rfl ?_
        refine sp_I (y := Int32.ofInt 999) rfl ?_
        refine sc_V 70 rfl rfl rfl rfl rfl (Nat.le_refl _) (Nat.le_refl _) rfl ?_
        refine mm_s_mono _ _ _ _ _ _ ?_ k
        rintro r_ h_ ⟨x6, I6, J6, rfl, rfl, k⟩
        refine sp_istore_n 71 rfl rfl rfl ?_
        refine sp_aload_n 72 rfl rfl rfl ?_
        refine sp_ldc2 75 rfl rfl ?_
        refine sp_iconst 76 rfl rfl ?_
        refine sp_bipush 78 rfl rfl ?_
        refine sp_I (y := Int32.ofInt 99) rfl ?_
        refine sc_V 81 rfl rfl rfl rfl rfl (Nat.le_refl _) (Nat.le_refl _) rfl ?_
        refine mm_s_mono _ _ _ _ _ _ ?_ k
        rintro r_ h_ ⟨x7, I7, J7, rfl, rfl, k⟩
        refine sp_istore_n 82 rfl rfl rfl ?_
        refine sp_aload_n 83 rfl rfl rfl ?_
        refine hq_getI 86 rfl rfl rfl ?_
        refine sp_if_le 89 rfl rfl (fun q => ?_) (fun q => ?_)
        · have k := k.1 q
          refine sp_aload_n 91 rfl rfl rfl ?_
          refine hq_getR 94 rfl rfl rfl rfl ?_
          refine sp_aload_n 95 rfl rfl rfl ?_
          refine hq_getI 98 rfl rfl rfl ?_
          refine sp_iload_n 99 rfl rfl rfl ?_
          have n3_ := k.1
          have k := k.2
          refine hq_iast 100 rfl rfl n3_ rfl ?_
          refine sp_aload_n 101 rfl rfl rfl ?_
          refine hq_getR 104 rfl rfl rfl rfl ?_
          refine sp_aload_n 105 rfl rfl rfl ?_
          refine hq_getI 108 rfl rfl rfl ?_
          refine sp_I (y := (I7 65 39)) (by simp [mm_u]) ?_
          refine sp_iload_n 109 rfl rfl rfl ?_
          refine hq_iast 110 rfl rfl n3_ rfl ?_
          refine sp_aload_n 111 rfl rfl rfl ?_
          refine sp_dup 112 rfl rfl rfl ?_
          refine hq_getI 115 rfl rfl rfl ?_
          refine sp_I (y := (I7 65 39)) (by simp [mm_u]) ?_
          refine sp_iconst 116 rfl rfl ?_
          refine sp_iadd 117 rfl rfl ?_
          refine hq_putI 120 rfl rfl rfl ?_
          exact st_vret rfl rfl (Nat.le_refl _) (Nat.le_refl _) k
        · have k := k.2 q
          exact st_vret rfl rfl (Nat.le_refl _) (Nat.le_refl _) k
  · have k := k.2 q
    refine sp_iload_n 17 rfl rfl rfl ?_
    refine sp_if_ne 20 rfl rfl (fun q => ?_) (fun q => ?_)
    · have k := k.2 q
      refine sp_iconst 34 rfl rfl ?_
      refine sp_goto rfl ?_
      refine sp_istore_n 39 rfl rfl rfl ?_
      refine sp_iinc 42 rfl rfl rfl rfl ?_
      refine sp_goto rfl ?_
      exact k
    · have k := k.1 q
      refine sp_aload_n 21 rfl rfl rfl ?_
      refine hq_getR 24 rfl rfl rfl rfl ?_
      refine sp_iload_n 25 rfl rfl rfl ?_
      have n4_ := k.1
      have k := k.2
      refine hq_iald 26 rfl rfl n4_ rfl ?_
      refine sp_aload_n 27 rfl rfl rfl ?_
      refine hq_getI 30 rfl rfl rfl ?_
      refine sp_ic_ne 33 rfl rfl (fun q => ?_) (fun q => ?_)
      · have k := k.2 q
        refine sp_iconst 38 rfl rfl ?_
        refine sp_istore_n 39 rfl rfl rfl ?_
        refine sp_iinc 42 rfl rfl rfl rfl ?_
        refine sp_goto rfl ?_
        exact k
      · have k := k.1 q
        refine sp_iconst 34 rfl rfl ?_
        refine sp_goto rfl ?_
        refine sp_istore_n 39 rfl rfl rfl ?_
        refine sp_iinc 42 rfl rfl rfl rfl ?_
        refine sp_goto rfl ?_
        exact k
theorem sg_X11_seekLeft {SL : Nat} {xs : Nat → Int32} {d : Nat} {p s q : Nat} {Q : Option Value → mm_H → Prop}  {I : Nat → Nat → Int32} {J : Nat → Nat → Int64}  (k : (mm_s SL xs (d + 4) 211 [.ref 65] (hp p s q I J) (fun r_ h_ => ∃ I1 J1, r_ = none ∧ h_ = hp p s q I1 J1 ∧ (mm_s SL xs (d + 4) 212 [.ref 65] (hp p s q I1 J1) (fun r_ h_ => ∃ x2 I2 J2, r_ = some (.long x2) ∧ h_ = hp p s q I2 J2 ∧ (mm_s SL xs (d + 4) 204 [.ref 65] (hp p s q I2 J2) (fun r_ h_ => ∃ I3 J3, r_ = none ∧ h_ = hp p s q I3 J3 ∧ Q (some (.long x2)) (hp p s q I3 J3)))))))) : mm_s SL xs (d + 5) 216 [.ref 65] (hp p s q I J) Q := by
  refine e_X11_seekLeft rfl ?_
  refine sp_aload_n 1 rfl rfl rfl ?_
  refine sc_V 4 rfl rfl rfl rfl rfl (Nat.le_refl _) (Nat.le_refl _) rfl ?_
  refine mm_s_mono _ _ _ _ _ _ ?_ k
  rintro r_ h_ ⟨I1, J1, rfl, rfl, k⟩
  refine sp_aload_n 5 rfl rfl rfl ?_
  refine sc_V 8 rfl rfl rfl rfl rfl (Nat.le_refl _) (Nat.le_refl _) rfl ?_
  refine mm_s_mono _ _ _ _ _ _ ?_ k
  rintro r_ h_ ⟨x2, I2, J2, rfl, rfl, k⟩
  refine sp_lstore_n 9 rfl rfl rfl ?_
  refine sp_aload_n 10 rfl rfl rfl ?_
  refine sc_V 13 rfl rfl rfl rfl rfl (Nat.le_refl _) (Nat.le_refl _) rfl ?_
  refine mm_s_mono _ _ _ _ _ _ ?_ k
  rintro r_ h_ ⟨I3, J3, rfl, rfl, k⟩
  refine sp_lload_n 14 rfl rfl rfl ?_
  exact st_lret rfl rfl (Nat.le_refl _) (Nat.le_refl _) k
theorem sg_X11_when {SL : Nat} {xs : Nat → Int32} {d : Nat} {p s q : Nat} {Q : Option Value → mm_H → Prop} {a0 : Int32} {I : Nat → Nat → Int32} {J : Nat → Nat → Int64}  (k : (((sy_X11_isPost a0 I J) = Int32.ofInt 0 → Q (some (.int (Int32.ofInt (-2)))) (hp p s q I J)) ∧ (¬ ((sy_X11_isPost a0 I J) = Int32.ofInt 0) → (vp_in a0 60 ∧ (((I 91 ((a0).toNatClampNeg)) = Int32.ofInt 0 → Q (some (.int (Int32.ofInt (-1)))) (hp p s q I J)) ∧ (¬ ((I 91 ((a0).toNatClampNeg)) = Int32.ofInt 0) → (mm_s SL xs (d + 4) 203 [.ref 65] (hp p s q I J) (fun r_ h_ => ∃ I1 J1, r_ = none ∧ h_ = hp p s q I1 J1 ∧ (mm_s SL xs (d + 4) 211 [.ref 65] (hp p s q I1 J1) (fun r_ h_ => ∃ I2 J2, r_ = none ∧ h_ = hp p s q I2 J2 ∧ (mm_s SL xs (d + 4) 204 [.ref 65] (hp p s q I2 J2) (fun r_ h_ => ∃ I3 J3, r_ = none ∧ h_ = hp p s q I3 J3 ∧ Q (some (.int (I2 88 ((a0).toNatClampNeg)))) (hp p s q I3 J3))))))))))))) : mm_s SL xs (d + 5) 218 [.ref 65, .int a0] (hp p s q I J) Q := by
  refine e_X11_when rfl ?_
  refine sp_aload_n 1 rfl rfl rfl ?_
  refine sp_iload_n 2 rfl rfl rfl ?_
  refine sc_V 5 rfl rfl rfl rfl rfl (Nat.le_refl _) (Nat.le_refl _) rfl ?_
  refine cy_X11_isPost ?_
  refine sp_if_ne 8 rfl rfl (fun q => ?_) (fun q => ?_)
  · have k := k.2 q
    refine sp_aload_n 12 rfl rfl rfl ?_
    refine hq_getR 15 rfl rfl rfl rfl ?_
    refine sp_iload_n 16 rfl rfl rfl ?_
    have n1_ := k.1
    have k := k.2
    refine hq_zald 17 rfl rfl n1_ rfl ?_
    refine sp_if_ne 20 rfl rfl (fun q => ?_) (fun q => ?_)
    · have k := k.2 q
      refine sp_aload_n 23 rfl rfl rfl ?_
      refine sc_V 26 rfl rfl rfl rfl rfl (Nat.le_refl _) (Nat.le_refl _) rfl ?_
      refine mm_s_mono _ _ _ _ _ _ ?_ k
      rintro r_ h_ ⟨I1, J1, rfl, rfl, k⟩
      refine sp_aload_n 27 rfl rfl rfl ?_
      refine sc_V 30 rfl rfl rfl rfl rfl (Nat.le_refl _) (Nat.le_refl _) rfl ?_
      refine mm_s_mono _ _ _ _ _ _ ?_ k
      rintro r_ h_ ⟨I2, J2, rfl, rfl, k⟩
      refine sp_aload_n 31 rfl rfl rfl ?_
      refine hq_getR 34 rfl rfl rfl rfl ?_
      refine sp_iload_n 35 rfl rfl rfl ?_
      refine hq_iald 36 rfl rfl n1_ rfl ?_
      refine sp_istore_n 37 rfl rfl rfl ?_
      refine sp_aload_n 38 rfl rfl rfl ?_
      refine sc_V 41 rfl rfl rfl rfl rfl (Nat.le_refl _) (Nat.le_refl _) rfl ?_
      refine mm_s_mono _ _ _ _ _ _ ?_ k
      rintro r_ h_ ⟨I3, J3, rfl, rfl, k⟩
      refine sp_iload_n 42 rfl rfl rfl ?_
      exact st_iret rfl rfl (Nat.le_refl _) (Nat.le_refl _) k
    · have k := k.1 q
      refine sp_iconst 21 rfl rfl ?_
      exact st_iret rfl rfl (Nat.le_refl _) (Nat.le_refl _) k
  · have k := k.1 q
    refine sp_bipush 10 rfl rfl ?_
    refine sp_I (y := Int32.ofInt (-2)) rfl ?_
    exact st_iret rfl rfl (Nat.le_refl _) (Nat.le_refl _) k
theorem sg_X11_lateGo {SL : Nat} {xs : Nat → Int32} {d : Nat} {p s q : Nat} {Q : Option Value → mm_H → Prop}  {I : Nat → Nat → Int32} {J : Nat → Nat → Int64}  (k : (mm_s SL xs (d + 4) 211 [.ref 65] (hp p s q (mm_u I 65 61 (Int32.ofInt 0)) J) (fun r_ h_ => ∃ I1 J1, r_ = none ∧ h_ = hp p s q I1 J1 ∧ Q none (hp p s q I1 J1)))) : mm_s SL xs (d + 5) 221 [.ref 65] (hp p s q I J) Q := by
  refine e_X11_lateGo rfl ?_
  refine sp_aload_n 1 rfl rfl rfl ?_
  refine sp_iconst 2 rfl rfl ?_
  refine hq_putI 5 rfl rfl rfl ?_
  refine sp_aload_n 6 rfl rfl rfl ?_
  refine sc_V 9 rfl rfl rfl rfl rfl (Nat.le_refl _) (Nat.le_refl _) rfl ?_
  refine mm_s_mono _ _ _ _ _ _ ?_ k
  rintro r_ h_ ⟨I1, J1, rfl, rfl, k⟩
  exact st_vret rfl rfl (Nat.le_refl _) (Nat.le_refl _) k
def w_X11_bribe_57 (SL : Nat) (xs : Nat → Int32) (d : Nat) (p s q : Nat) (Q : Option Value → mm_H → Prop) (v1 : Int32) (v2 : Int32) (v3 : Int32) (v4 : Int32) (v5 : Int32) (I : Nat → Nat → Int32) (J : Nat → Nat → Int64) : Prop := mm_w SL xs (mm_s SL xs (d + 4)) mm_am kX11_bribe 0 0 (some .int) Q 57 [some (.ref 65), some (.int v1), some (.int v2), some (.int v3), some (.int v4), some (.int v5)] [] (hp p s q I J) 0 0
theorem sg_X11_bribe {SL : Nat} {xs : Nat → Int32} {d : Nat} {p s q : Nat} {Q : Option Value → mm_H → Prop} {a0 : Int32} {I : Nat → Nat → Int32} {J : Nat → Nat → Int64}  (k : (((sy_X11_isPost a0 I J) = Int32.ofInt 0 → Q (some (.int (Int32.ofInt (-2)))) (hp p s q I J)) ∧ (¬ ((sy_X11_isPost a0 I J) = Int32.ofInt 0) → (vp_in a0 60 ∧ (((I 91 ((a0).toNatClampNeg)) = Int32.ofInt 0 → Q (some (.int (Int32.ofInt (-1)))) (hp p s q I J)) ∧ (¬ ((I 91 ((a0).toNatClampNeg)) = Int32.ofInt 0) → (mm_s SL xs (d + 4) 203 [.ref 65] (hp p s q I J) (fun r_ h_ => ∃ I1 J1, r_ = none ∧ h_ = hp p s q I1 J1 ∧ (mm_s SL xs (d + 4) 211 [.ref 65] (hp p s q I1 J1) (fun r_ h_ => ∃ I2 J2, r_ = none ∧ h_ = hp p s q I2 J2 ∧ (mm_s SL xs (d + 4) 204 [.ref 65] (hp p s q I2 J2) (fun r_ h_ => ∃ I3 J3, r_ = none ∧ h_ = hp p s q I3 J3 ∧ w_X11_bribe_57 SL xs d p s q Q a0 (I2 65 60) (I2 91 ((a0).toNatClampNeg)) (Int32.ofInt (-1)) ((I3 65 60) + (Int32.ofInt 1)) I3 J3)))))))))))) : mm_s SL xs (d + 5) 223 [.ref 65, .int a0] (hp p s q I J) Q := by
  refine e_X11_bribe rfl ?_
  refine sp_aload_n 1 rfl rfl rfl ?_
  refine sp_iload_n 2 rfl rfl rfl ?_
  refine sc_V 5 rfl rfl rfl rfl rfl (Nat.le_refl _) (Nat.le_refl _) rfl ?_
  refine cy_X11_isPost ?_
  refine sp_if_ne 8 rfl rfl (fun q => ?_) (fun q => ?_)
  · have k := k.2 q
    refine sp_aload_n 12 rfl rfl rfl ?_
    refine hq_getR 15 rfl rfl rfl rfl ?_
    refine sp_iload_n 16 rfl rfl rfl ?_
    have n1_ := k.1
    have k := k.2
    refine hq_zald 17 rfl rfl n1_ rfl ?_
    refine sp_if_ne 20 rfl rfl (fun q => ?_) (fun q => ?_)
    · have k := k.2 q
      refine sp_aload_n 23 rfl rfl rfl ?_
      refine sc_V 26 rfl rfl rfl rfl rfl (Nat.le_refl _) (Nat.le_refl _) rfl ?_
      refine mm_s_mono _ _ _ _ _ _ ?_ k
      rintro r_ h_ ⟨I1, J1, rfl, rfl, k⟩
      refine sp_aload_n 27 rfl rfl rfl ?_
      refine sc_V 30 rfl rfl rfl rfl rfl (Nat.le_refl _) (Nat.le_refl _) rfl ?_
      refine mm_s_mono _ _ _ _ _ _ ?_ k
      rintro r_ h_ ⟨I2, J2, rfl, rfl, k⟩
      refine sp_aload_n 31 rfl rfl rfl ?_
      refine hq_getI 34 rfl rfl rfl ?_
      refine sp_istore_n 35 rfl rfl rfl ?_
      refine sp_aload_n 36 rfl rfl rfl ?_
      refine hq_getR 39 rfl rfl rfl rfl ?_
      refine sp_iload_n 40 rfl rfl rfl ?_
      refine hq_zald 41 rfl rfl n1_ rfl ?_
      refine sp_istore_n 42 rfl rfl rfl ?_
      refine sp_aload_n 43 rfl rfl rfl ?_
      refine sc_V 46 rfl rfl rfl rfl rfl (Nat.le_refl _) (Nat.le_refl _) rfl ?_
      refine mm_s_mono _ _ _ _ _ _ ?_ k
      rintro r_ h_ ⟨I3, J3, rfl, rfl, k⟩
      refine sp_iconst 47 rfl rfl ?_
      refine sp_istore 49 rfl rfl rfl ?_
      refine sp_aload_n 50 rfl rfl rfl ?_
      refine hq_getI 53 rfl rfl rfl ?_
      refine sp_iconst 54 rfl rfl ?_
      refine sp_iadd 55 rfl rfl ?_
      refine sp_istore 57 rfl rfl rfl ?_
      exact k
    · have k := k.1 q
      refine sp_iconst 21 rfl rfl ?_
      exact st_iret rfl rfl (Nat.le_refl _) (Nat.le_refl _) k
  · have k := k.1 q
    refine sp_bipush 10 rfl rfl ?_
    refine sp_I (y := Int32.ofInt (-2)) rfl ?_
    exact st_iret rfl rfl (Nat.le_refl _) (Nat.le_refl _) k
theorem sg_X11_bribe_57 {SL : Nat} {xs : Nat → Int32} {d : Nat} {p s q : Nat} {Q : Option Value → mm_H → Prop} {v1 : Int32} {v2 : Int32} {v3 : Int32} {v4 : Int32} {v5 : Int32} {I : Nat → Nat → Int32} {J : Nat → Nat → Int64}  (k : ((v2 < v5 → Q (some (.int v4)) (hp p s q I J)) ∧ (¬ (v2 < v5) → ((v3 = Int32.ofInt 0 → ((Int32.ofInt 0 ≤ v4 → Q (some (.int v4)) (hp p s q I J)) ∧ (¬ (Int32.ofInt 0 ≤ v4) → (mm_s SL xs (d + 4) 211 [.ref 65] (hp p s q (mm_u I 65 77 v5) J) (fun r_ h_ => ∃ I1 J1, r_ = none ∧ h_ = hp p s q I1 J1 ∧ (vp_in v1 60 ∧ (((I1 91 ((v1).toNatClampNeg)) = Int32.ofInt 0 → (mm_s SL xs (d + 4) 204 [.ref 65] (hp p s q I1 J1) (fun r_ h_ => ∃ I2 J2, r_ = none ∧ h_ = hp p s q I2 J2 ∧ w_X11_bribe_57 SL xs d p s q Q v1 v2 v3 (Int32.ofInt (-1)) (v5 + Int32.ofInt 1) I2 J2))) ∧ (¬ ((I1 91 ((v1).toNatClampNeg)) = Int32.ofInt 0) → (mm_s SL xs (d + 4) 204 [.ref 65] (hp p s q I1 J1) (fun r_ h_ => ∃ I3 J3, r_ = none ∧ h_ = hp p s q I3 J3 ∧ w_X11_bribe_57 SL xs d p s q Q v1 v2 v3 v5 (v5 + Int32.ofInt 1) I3 J3)))))))))) ∧ (¬ (v3 = Int32.ofInt 0) → Q (some (.int v4)) (hp p s q I J)))))) : w_X11_bribe_57 SL xs d p s q Q v1 v2 v3 v4 v5 I J := by
  unfold w_X11_bribe_57
  refine sp_iload 59 rfl rfl rfl ?_
  refine sp_iload_n 60 rfl rfl rfl ?_
  refine sp_ic_gt 63 rfl rfl (fun q => ?_) (fun q => ?_)
  · have k := k.1 q
    refine sp_iload 111 rfl rfl rfl ?_
    exact st_iret rfl rfl (Nat.le_refl _) (Nat.le_refl _) k
  · have k := k.2 q
    refine sp_iload_n 64 rfl rfl rfl ?_
    refine sp_if_ne 67 rfl rfl (fun q => ?_) (fun q => ?_)
    · have k := k.2 q
      refine sp_iload 111 rfl rfl rfl ?_
      exact st_iret rfl rfl (Nat.le_refl _) (Nat.le_refl _) k
    · have k := k.1 q
      refine sp_iload 69 rfl rfl rfl ?_
      refine sp_if_ge 72 rfl rfl (fun q => ?_) (fun q => ?_)
      · have k := k.1 q
        refine sp_iload 111 rfl rfl rfl ?_
        exact st_iret rfl rfl (Nat.le_refl _) (Nat.le_refl _) k
      · have k := k.2 q
        refine sp_aload_n 73 rfl rfl rfl ?_
        refine sp_iload 75 rfl rfl rfl ?_
        refine hq_putI 78 rfl rfl rfl ?_
        refine sp_aload_n 79 rfl rfl rfl ?_
        refine sc_V 82 rfl rfl rfl rfl rfl (Nat.le_refl _) (Nat.le_refl _) rfl ?_
        refine mm_s_mono _ _ _ _ _ _ ?_ k
        rintro r_ h_ ⟨I1, J1, rfl, rfl, k⟩
        refine sp_aload_n 83 rfl rfl rfl ?_
        refine hq_getR 86 rfl rfl rfl rfl ?_
        refine sp_iload_n 87 rfl rfl rfl ?_
        have n2_ := k.1
        have k := k.2
        refine hq_zald 88 rfl rfl n2_ rfl ?_
        refine sp_if_eq 91 rfl rfl (fun q => ?_) (fun q => ?_)
        · have k := k.1 q
          refine sp_iconst 97 rfl rfl ?_
          refine sp_istore 99 rfl rfl rfl ?_
          refine sp_aload_n 100 rfl rfl rfl ?_
          refine sc_V 103 rfl rfl rfl rfl rfl (Nat.le_refl _) (Nat.le_refl _) rfl ?_
          refine mm_s_mono _ _ _ _ _ _ ?_ k
          rintro r_ h_ ⟨I2, J2, rfl, rfl, k⟩
          refine sp_iinc 106 rfl rfl rfl rfl ?_
          refine sp_goto rfl ?_
          exact k
        · have k := k.2 q
          refine sp_iload 93 rfl rfl rfl ?_
          refine sp_goto rfl ?_
          refine sp_istore 99 rfl rfl rfl ?_
          refine sp_aload_n 100 rfl rfl rfl ?_
          refine sc_V 103 rfl rfl rfl rfl rfl (Nat.le_refl _) (Nat.le_refl _) rfl ?_
          refine mm_s_mono _ _ _ _ _ _ ?_ k
          rintro r_ h_ ⟨I3, J3, rfl, rfl, k⟩
          refine sp_iinc 106 rfl rfl rfl rfl ?_
          refine sp_goto rfl ?_
          exact k
def w_X11_begins_21 (SL : Nat) (xs : Nat → Int32) (d : Nat) (p s q : Nat) (Q : Option Value → mm_H → Prop) (v1 : Int32) (v2 : Int64) (v4 : Int32) (I : Nat → Nat → Int32) (J : Nat → Nat → Int64) : Prop := mm_w SL xs (mm_s SL xs (d + 4)) mm_am kX11_begins 0 0 (some .long) Q 21 [some (.ref 65), some (.int v1), some (.long v2), none, some (.int v4)] [] (hp p s q I J) 0 0
theorem sg_X11_begins {SL : Nat} {xs : Nat → Int32} {d : Nat} {p s q : Nat} {Q : Option Value → mm_H → Prop} {a0 : Int32} {I : Nat → Nat → Int32} {J : Nat → Nat → Int64}  (k : (((sy_X11_isPost a0 I J) = Int32.ofInt 0 → Q (some (.long (Int64.ofInt (-2)))) (hp p s q I J)) ∧ (¬ ((sy_X11_isPost a0 I J) = Int32.ofInt 0) → (mm_s SL xs (d + 4) 203 [.ref 65] (hp p s q I J) (fun r_ h_ => ∃ I1 J1, r_ = none ∧ h_ = hp p s q I1 J1 ∧ w_X11_begins_21 SL xs d p s q Q a0 (Int64.ofInt 0) (Int32.ofInt 0) I1 J1))))) : mm_s SL xs (d + 5) 227 [.ref 65, .int a0] (hp p s q I J) Q := by
  refine e_X11_begins rfl ?_
  refine sp_aload_n 1 rfl rfl rfl ?_
  refine sp_iload_n 2 rfl rfl rfl ?_
  refine sc_V 5 rfl rfl rfl rfl rfl (Nat.le_refl _) (Nat.le_refl _) rfl ?_
  refine cy_X11_isPost ?_
  refine sp_if_ne 8 rfl rfl (fun q => ?_) (fun q => ?_)
  · have k := k.2 q
    refine sp_aload_n 13 rfl rfl rfl ?_
    refine sc_V 16 rfl rfl rfl rfl rfl (Nat.le_refl _) (Nat.le_refl _) rfl ?_
    refine mm_s_mono _ _ _ _ _ _ ?_ k
    rintro r_ h_ ⟨I1, J1, rfl, rfl, k⟩
    refine sp_lconst 17 rfl rfl ?_
    refine sp_J (y := Int64.ofInt 0) rfl ?_
    refine sp_lstore_n 18 rfl rfl rfl ?_
    refine sp_iconst 19 rfl rfl ?_
    refine sp_istore 21 rfl rfl rfl ?_
    exact k
  · have k := k.1 q
    refine sp_ldc2 11 rfl rfl ?_
    exact st_lret rfl rfl (Nat.le_refl _) (Nat.le_refl _) k
theorem sg_X11_begins_21 {SL : Nat} {xs : Nat → Int32} {d : Nat} {p s q : Nat} {Q : Option Value → mm_H → Prop} {v1 : Int32} {v2 : Int64} {v4 : Int32} {I : Nat → Nat → Int32} {J : Nat → Nat → Int64}  (k : (((I 65 47) ≤ v4 → (mm_s SL xs (d + 4) 204 [.ref 65] (hp p s q I J) (fun r_ h_ => ∃ I1 J1, r_ = none ∧ h_ = hp p s q I1 J1 ∧ Q (some (.long v2)) (hp p s q I1 J1)))) ∧ (¬ ((I 65 47) ≤ v4) → (mm_s SL xs (d + 4) 202 [.ref 65, .int v4] (hp p s q I J) (fun r_ h_ => ∃ I2 J2, r_ = none ∧ h_ = hp p s q I2 J2 ∧ (mm_s SL xs (d + 4) 211 [.ref 65] (hp p s q I2 J2) (fun r_ h_ => ∃ I3 J3, r_ = none ∧ h_ = hp p s q I3 J3 ∧ (vp_in v1 60 ∧ (((I3 91 ((v1).toNatClampNeg)) = Int32.ofInt 0 → w_X11_begins_21 SL xs d p s q Q v1 (v2 ||| (Int64.ofInt 0)) (v4 + Int32.ofInt 1) I3 J3) ∧ (¬ ((I3 91 ((v1).toNatClampNeg)) = Int32.ofInt 0) → w_X11_begins_21 SL xs d p s q Q v1 (v2 ||| ((Int64.ofInt 1) <<< ((v4).toInt64 &&& 63))) (v4 + Int32.ofInt 1) I3 J3)))))))))) : w_X11_begins_21 SL xs d p s q Q v1 v2 v4 I J := by
  unfold w_X11_begins_21
  refine sp_iload 23 rfl rfl rfl ?_
  refine sp_aload_n 24 rfl rfl rfl ?_
  refine hq_getI 27 rfl rfl rfl ?_
  refine sp_ic_ge 30 rfl rfl (fun q => ?_) (fun q => ?_)
  · have k := k.1 q
    refine sp_aload_n 67 rfl rfl rfl ?_
    refine sc_V 70 rfl rfl rfl rfl rfl (Nat.le_refl _) (Nat.le_refl _) rfl ?_
    refine mm_s_mono _ _ _ _ _ _ ?_ k
    rintro r_ h_ ⟨I1, J1, rfl, rfl, k⟩
    refine sp_lload_n 71 rfl rfl rfl ?_
    exact st_lret rfl rfl (Nat.le_refl _) (Nat.le_refl _) k
  · have k := k.2 q
    refine sp_aload_n 31 rfl rfl rfl ?_
    refine sp_iload 33 rfl rfl rfl ?_
    refine sc_V 36 rfl rfl rfl rfl rfl (Nat.le_refl _) (Nat.le_refl _) rfl ?_
    refine mm_s_mono _ _ _ _ _ _ ?_ k
    rintro r_ h_ ⟨I2, J2, rfl, rfl, k⟩
    refine sp_aload_n 37 rfl rfl rfl ?_
    refine sc_V 40 rfl rfl rfl rfl rfl (Nat.le_refl _) (Nat.le_refl _) rfl ?_
    refine mm_s_mono _ _ _ _ _ _ ?_ k
    rintro r_ h_ ⟨I3, J3, rfl, rfl, k⟩
    refine sp_lload_n 41 rfl rfl rfl ?_
    refine sp_aload_n 42 rfl rfl rfl ?_
    refine hq_getR 45 rfl rfl rfl rfl ?_
    refine sp_iload_n 46 rfl rfl rfl ?_
    have n1_ := k.1
    have k := k.2
    refine hq_zald 47 rfl rfl n1_ rfl ?_
    refine sp_if_eq 50 rfl rfl (fun q => ?_) (fun q => ?_)
    · have k := k.1 q
      refine sp_lconst 58 rfl rfl ?_
      refine sp_J (y := Int64.ofInt 0) rfl ?_
      refine sp_lor 59 rfl rfl ?_
      refine sp_lstore_n 60 rfl rfl rfl ?_
      refine sp_iinc 63 rfl rfl rfl rfl ?_
      refine sp_goto rfl ?_
      exact k
    · have k := k.2 q
      refine sp_lconst 51 rfl rfl ?_
      refine sp_J (y := Int64.ofInt 1) rfl ?_
      refine sp_iload 53 rfl rfl rfl ?_
      refine sp_lshl 54 rfl rfl ?_
      refine sp_goto rfl ?_
      refine sp_lor 59 rfl rfl ?_
      refine sp_lstore_n 60 rfl rfl rfl ?_
      refine sp_iinc 63 rfl rfl rfl rfl ?_
      refine sp_goto rfl ?_
      exact k
def w_X11_chooses_22 (SL : Nat) (xs : Nat → Int32) (d : Nat) (p s q : Nat) (Q : Option Value → mm_H → Prop) (v1 : Int64) (v3 : Int32) (v4 : Int32) (I : Nat → Nat → Int32) (J : Nat → Nat → Int64) : Prop := mm_w SL xs (mm_s SL xs (d + 4)) mm_am kX11_chooses 0 0 (some .int) Q 22 [some (.ref 65), some (.long v1), none, some (.int v3), some (.int v4)] [] (hp p s q I J) 0 0
theorem sg_X11_chooses {SL : Nat} {xs : Nat → Int32} {d : Nat} {p s q : Nat} {Q : Option Value → mm_H → Prop} {a0 : Int64} {I : Nat → Nat → Int32} {J : Nat → Nat → Int64}  (k : (((sx_X11_isSet a0 (I 65 47)) = Int32.ofInt 0 → Q (some (.int (Int32.ofInt (-1)))) (hp p s q I J)) ∧ (¬ ((sx_X11_isSet a0 (I 65 47)) = Int32.ofInt 0) → (mm_s SL xs (d + 4) 203 [.ref 65] (hp p s q I J) (fun r_ h_ => ∃ I1 J1, r_ = none ∧ h_ = hp p s q I1 J1 ∧ w_X11_chooses_22 SL xs d p s q Q a0 (Int32.ofInt (-1)) (Int32.ofInt 1) I1 J1))))) : mm_s SL xs (d + 5) 229 [.ref 65, .long a0] (hp p s q I J) Q := by
  refine e_X11_chooses rfl ?_
  refine sp_lload_n 1 rfl rfl rfl ?_
  refine sp_aload_n 2 rfl rfl rfl ?_
  refine hq_getI 5 rfl rfl rfl ?_
  refine sc_S 8 rfl rfl rfl rfl (Nat.le_refl _) (Nat.le_refl _) rfl ?_
  refine cx_X11_isSet ?_
  refine sp_if_ne 11 rfl rfl (fun q => ?_) (fun q => ?_)
  · have k := k.2 q
    refine sp_aload_n 14 rfl rfl rfl ?_
    refine sc_V 17 rfl rfl rfl rfl rfl (Nat.le_refl _) (Nat.le_refl _) rfl ?_
    refine mm_s_mono _ _ _ _ _ _ ?_ k
    rintro r_ h_ ⟨I1, J1, rfl, rfl, k⟩
    refine sp_iconst 18 rfl rfl ?_
    refine sp_istore_n 19 rfl rfl rfl ?_
    refine sp_iconst 20 rfl rfl ?_
    refine sp_istore 22 rfl rfl rfl ?_
    exact k
  · have k := k.1 q
    refine sp_iconst 12 rfl rfl ?_
    exact st_iret rfl rfl (Nat.le_refl _) (Nat.le_refl _) k
theorem sg_X11_chooses_22 {SL : Nat} {xs : Nat → Int32} {d : Nat} {p s q : Nat} {Q : Option Value → mm_H → Prop} {v1 : Int64} {v3 : Int32} {v4 : Int32} {I : Nat → Nat → Int32} {J : Nat → Nat → Int64}  (k : (((Int32.ofInt 999) < v4 → (mm_s SL xs (d + 4) 204 [.ref 65] (hp p s q I J) (fun r_ h_ => ∃ I1 J1, r_ = none ∧ h_ = hp p s q I1 J1 ∧ Q (some (.int v3)) (hp p s q I1 J1)))) ∧ (¬ ((Int32.ofInt 999) < v4) → ((Int32.ofInt 0 ≤ v3 → (mm_s SL xs (d + 4) 204 [.ref 65] (hp p s q I J) (fun r_ h_ => ∃ I2 J2, r_ = none ∧ h_ = hp p s q I2 J2 ∧ Q (some (.int v3)) (hp p s q I2 J2)))) ∧ (¬ (Int32.ofInt 0 ≤ v3) → (mm_s SL xs (d + 4) 202 [.ref 65, .int (I 65 48)] (hp p s q I J) (fun r_ h_ => ∃ I3 J3, r_ = none ∧ h_ = hp p s q I3 J3 ∧ (mm_s SL xs (d + 4) 211 [.ref 65] (hp p s q (mm_u I3 65 76 v4) J3) (fun r_ h_ => ∃ I4 J4, r_ = none ∧ h_ = hp p s q I4 J4 ∧ (mm_s SL xs (d + 4) 212 [.ref 65] (hp p s q I4 J4) (fun r_ h_ => ∃ x5 I5 J5, r_ = some (.long x5) ∧ h_ = hp p s q I5 J5 ∧ (((x5 &&& v1) = v1 → w_X11_chooses_22 SL xs d p s q Q v1 v4 (v4 + Int32.ofInt 1) I5 J5) ∧ (¬ ((x5 &&& v1) = v1) → w_X11_chooses_22 SL xs d p s q Q v1 (Int32.ofInt (-1)) (v4 + Int32.ofInt 1) I5 J5))))))))))))) : w_X11_chooses_22 SL xs d p s q Q v1 v3 v4 I J := by
  unfold w_X11_chooses_22
  refine sp_iload 24 rfl rfl rfl ?_
  refine sp_sipush 27 rfl rfl ?_
  refine sp_I (y := Int32.ofInt 999) rfl ?_
  refine sp_ic_gt 30 rfl rfl (fun q => ?_) (fun q => ?_)
  · have k := k.1 q
    refine sp_aload_n 77 rfl rfl rfl ?_
    refine sc_V 80 rfl rfl rfl rfl rfl (Nat.le_refl _) (Nat.le_refl _) rfl ?_
    refine mm_s_mono _ _ _ _ _ _ ?_ k
    rintro r_ h_ ⟨I1, J1, rfl, rfl, k⟩
    refine sp_iload_n 81 rfl rfl rfl ?_
    exact st_iret rfl rfl (Nat.le_refl _) (Nat.le_refl _) k
  · have k := k.2 q
    refine sp_iload_n 31 rfl rfl rfl ?_
    refine sp_if_ge 34 rfl rfl (fun q => ?_) (fun q => ?_)
    · have k := k.1 q
      refine sp_aload_n 77 rfl rfl rfl ?_
      refine sc_V 80 rfl rfl rfl rfl rfl (Nat.le_refl _) (Nat.le_refl _) rfl ?_
      refine mm_s_mono _ _ _ _ _ _ ?_ k
      rintro r_ h_ ⟨I2, J2, rfl, rfl, k⟩
      refine sp_iload_n 81 rfl rfl rfl ?_
      exact st_iret rfl rfl (Nat.le_refl _) (Nat.le_refl _) k
    · have k := k.2 q
      refine sp_aload_n 35 rfl rfl rfl ?_
      refine sp_aload_n 36 rfl rfl rfl ?_
      refine hq_getI 39 rfl rfl rfl ?_
      refine sc_V 42 rfl rfl rfl rfl rfl (Nat.le_refl _) (Nat.le_refl _) rfl ?_
      refine mm_s_mono _ _ _ _ _ _ ?_ k
      rintro r_ h_ ⟨I3, J3, rfl, rfl, k⟩
      refine sp_aload_n 43 rfl rfl rfl ?_
      refine sp_iload 45 rfl rfl rfl ?_
      refine hq_putI 48 rfl rfl rfl ?_
      refine sp_aload_n 49 rfl rfl rfl ?_
      refine sc_V 52 rfl rfl rfl rfl rfl (Nat.le_refl _) (Nat.le_refl _) rfl ?_
      refine mm_s_mono _ _ _ _ _ _ ?_ k
      rintro r_ h_ ⟨I4, J4, rfl, rfl, k⟩
      refine sp_aload_n 53 rfl rfl rfl ?_
      refine sc_V 56 rfl rfl rfl rfl rfl (Nat.le_refl _) (Nat.le_refl _) rfl ?_
      refine mm_s_mono _ _ _ _ _ _ ?_ k
      rintro r_ h_ ⟨x5, I5, J5, rfl, rfl, k⟩
      refine sp_lload_n 57 rfl rfl rfl ?_
      refine sp_land 58 rfl rfl ?_
      refine sp_lload_n 59 rfl rfl rfl ?_
      refine sp_lcmp 60 rfl rfl ?_
      refine sp_if_ne 63 rfl rfl (fun q => ?_) (fun q => ?_)
      · have k := k.2 (fun z => q ((lg_cmp_eq _ _).mpr z))
        refine sp_iconst 69 rfl rfl ?_
        refine sp_istore_n 70 rfl rfl rfl ?_
        refine sp_iinc 73 rfl rfl rfl rfl ?_
        refine sp_goto rfl ?_
        exact k
      · have k := k.1 ((lg_cmp_eq _ _).mp q)
        refine sp_iload 65 rfl rfl rfl ?_
        refine sp_goto rfl ?_
        refine sp_istore_n 70 rfl rfl rfl ?_
        refine sp_iinc 73 rfl rfl rfl rfl ?_
        refine sp_goto rfl ?_
        exact k
def w_X11_judge_20 (SL : Nat) (xs : Nat → Int32) (d : Nat) (p s q : Nat) (Q : Option Value → mm_H → Prop) (v1 : Int32) (v2 : Int32) (I : Nat → Nat → Int32) (J : Nat → Nat → Int64) : Prop := mm_w SL xs (mm_s SL xs (d + 4)) mm_am kX11_judge 0 0 (some .int) Q 20 [some (.ref 65), some (.int v1), some (.int v2)] [] (hp p s q I J) 0 0
theorem sg_X11_judge {SL : Nat} {xs : Nat → Int32} {d : Nat} {p s q : Nat} {Q : Option Value → mm_H → Prop}  {I : Nat → Nat → Int32} {J : Nat → Nat → Int64}  (k : (mm_s SL xs (d + 4) 203 [.ref 65] (hp p s q I J) (fun r_ h_ => ∃ I1 J1, r_ = none ∧ h_ = hp p s q I1 J1 ∧ (mm_s SL xs (d + 4) 202 [.ref 65, .int (I1 65 48)] (hp p s q I1 J1) (fun r_ h_ => ∃ I2 J2, r_ = none ∧ h_ = hp p s q I2 J2 ∧ (mm_s SL xs (d + 4) 211 [.ref 65] (hp p s q I2 J2) (fun r_ h_ => ∃ I3 J3, r_ = none ∧ h_ = hp p s q I3 J3 ∧ w_X11_judge_20 SL xs d p s q Q (Int32.ofInt (-1)) (Int32.ofInt 0) I3 J3))))))) : mm_s SL xs (d + 5) 232 [.ref 65] (hp p s q I J) Q := by
  refine e_X11_judge rfl ?_
  refine sp_aload_n 1 rfl rfl rfl ?_
  refine sc_V 4 rfl rfl rfl rfl rfl (Nat.le_refl _) (Nat.le_refl _) rfl ?_
  refine mm_s_mono _ _ _ _ _ _ ?_ k
  rintro r_ h_ ⟨I1, J1, rfl, rfl, k⟩
  refine sp_aload_n 5 rfl rfl rfl ?_
  refine sp_aload_n 6 rfl rfl rfl ?_
  refine hq_getI 9 rfl rfl rfl ?_
  refine sc_V 12 rfl rfl rfl rfl rfl (Nat.le_refl _) (Nat.le_refl _) rfl ?_
  refine mm_s_mono _ _ _ _ _ _ ?_ k
  rintro r_ h_ ⟨I2, J2, rfl, rfl, k⟩
  refine sp_aload_n 13 rfl rfl rfl ?_
  refine sc_V 16 rfl rfl rfl rfl rfl (Nat.le_refl _) (Nat.le_refl _) rfl ?_
  refine mm_s_mono _ _ _ _ _ _ ?_ k
  rintro r_ h_ ⟨I3, J3, rfl, rfl, k⟩
  refine sp_iconst 17 rfl rfl ?_
  refine sp_istore_n 18 rfl rfl rfl ?_
  refine sp_iconst 19 rfl rfl ?_
  refine sp_istore_n 20 rfl rfl rfl ?_
  exact k
theorem sg_X11_judge_20 {SL : Nat} {xs : Nat → Int32} {d : Nat} {p s q : Nat} {Q : Option Value → mm_H → Prop} {v1 : Int32} {v2 : Int32} {I : Nat → Nat → Int32} {J : Nat → Nat → Int64}  (k : (((I 65 80) ≤ v2 → (mm_s SL xs (d + 4) 204 [.ref 65] (hp p s q I J) (fun r_ h_ => ∃ I1 J1, r_ = none ∧ h_ = hp p s q I1 J1 ∧ Q (some (.int v1)) (hp p s q I1 J1)))) ∧ (¬ ((I 65 80) ≤ v2) → ((Int32.ofInt 0 ≤ v1 → (mm_s SL xs (d + 4) 204 [.ref 65] (hp p s q I J) (fun r_ h_ => ∃ I2 J2, r_ = none ∧ h_ = hp p s q I2 J2 ∧ Q (some (.int v1)) (hp p s q I2 J2)))) ∧ (¬ (Int32.ofInt 0 ≤ v1) → (((I 65 61) ≤ v2 → w_X11_judge_20 SL xs d p s q Q v2 (v2 + Int32.ofInt 1) I J) ∧ (¬ ((I 65 61) ≤ v2) → (vp_in v2 60 ∧ (((I 89 ((v2).toNatClampNeg)) = (I 97 ((v2).toNatClampNeg)) → w_X11_judge_20 SL xs d p s q Q (Int32.ofInt (-1)) (v2 + Int32.ofInt 1) I J) ∧ (¬ ((I 89 ((v2).toNatClampNeg)) = (I 97 ((v2).toNatClampNeg))) → w_X11_judge_20 SL xs d p s q Q v2 (v2 + Int32.ofInt 1) I J)))))))))) : w_X11_judge_20 SL xs d p s q Q v1 v2 I J := by
  unfold w_X11_judge_20
  refine sp_iload_n 21 rfl rfl rfl ?_
  refine sp_aload_n 22 rfl rfl rfl ?_
  refine hq_getI 25 rfl rfl rfl ?_
  refine sp_ic_ge 28 rfl rfl (fun q => ?_) (fun q => ?_)
  · have k := k.1 q
    refine sp_aload_n 68 rfl rfl rfl ?_
    refine sc_V 71 rfl rfl rfl rfl rfl (Nat.le_refl _) (Nat.le_refl _) rfl ?_
    refine mm_s_mono _ _ _ _ _ _ ?_ k
    rintro r_ h_ ⟨I1, J1, rfl, rfl, k⟩
    refine sp_iload_n 72 rfl rfl rfl ?_
    exact st_iret rfl rfl (Nat.le_refl _) (Nat.le_refl _) k
  · have k := k.2 q
    refine sp_iload_n 29 rfl rfl rfl ?_
    refine sp_if_ge 32 rfl rfl (fun q => ?_) (fun q => ?_)
    · have k := k.1 q
      refine sp_aload_n 68 rfl rfl rfl ?_
      refine sc_V 71 rfl rfl rfl rfl rfl (Nat.le_refl _) (Nat.le_refl _) rfl ?_
      refine mm_s_mono _ _ _ _ _ _ ?_ k
      rintro r_ h_ ⟨I2, J2, rfl, rfl, k⟩
      refine sp_iload_n 72 rfl rfl rfl ?_
      exact st_iret rfl rfl (Nat.le_refl _) (Nat.le_refl _) k
    · have k := k.2 q
      refine sp_iload_n 33 rfl rfl rfl ?_
      refine sp_aload_n 34 rfl rfl rfl ?_
      refine hq_getI 37 rfl rfl rfl ?_
      refine sp_ic_ge 40 rfl rfl (fun q => ?_) (fun q => ?_)
      · have k := k.1 q
        refine sp_iload_n 60 rfl rfl rfl ?_
        refine sp_istore_n 61 rfl rfl rfl ?_
        refine sp_iinc 64 rfl rfl rfl rfl ?_
        refine sp_goto rfl ?_
        exact k
      · have k := k.2 q
        refine sp_aload_n 41 rfl rfl rfl ?_
        refine hq_getR 44 rfl rfl rfl rfl ?_
        refine sp_iload_n 45 rfl rfl rfl ?_
        have n1_ := k.1
        have k := k.2
        refine hq_iald 46 rfl rfl n1_ rfl ?_
        refine sp_aload_n 47 rfl rfl rfl ?_
        refine hq_getR 50 rfl rfl rfl rfl ?_
        refine sp_iload_n 51 rfl rfl rfl ?_
        refine hq_iald 52 rfl rfl n1_ rfl ?_
        refine sp_ic_ne 55 rfl rfl (fun q => ?_) (fun q => ?_)
        · have k := k.2 q
          refine sp_iload_n 60 rfl rfl rfl ?_
          refine sp_istore_n 61 rfl rfl rfl ?_
          refine sp_iinc 64 rfl rfl rfl rfl ?_
          refine sp_goto rfl ?_
          exact k
        · have k := k.1 q
          refine sp_iconst 56 rfl rfl ?_
          refine sp_goto rfl ?_
          refine sp_istore_n 61 rfl rfl rfl ?_
          refine sp_iinc 64 rfl rfl rfl rfl ?_
          refine sp_goto rfl ?_
          exact k
theorem sg_X11_readCountLine {SL : Nat} {xs : Nat → Int32} {d : Nat} {p s q : Nat} {Q : Option Value → mm_H → Prop}  {I : Nat → Nat → Int32} {J : Nat → Nat → Int64}  (k : (vp_in (Int32.ofInt 6) 8 ∧ (mm_s SL xs (d + 5) 190 [.ref 65] (hp p s q (mm_u I 85 (((Int32.ofInt 6)).toNatClampNeg) (Int32.ofInt 1)) J) (fun r_ h_ => ∃ I1 J1, r_ = none ∧ h_ = hp p s q I1 J1 ∧ Q none (hp p s q I1 J1))))) : mm_s SL xs (d + 6) 196 [.ref 65] (hp p s q I J) Q := by
  refine e_X11_readCountLine rfl ?_
  refine sp_aload_n 1 rfl rfl rfl ?_
  refine hq_getR 4 rfl rfl rfl rfl ?_
  refine sp_bipush 6 rfl rfl ?_
  refine sp_I (y := Int32.ofInt 6) rfl ?_
  refine sp_iconst 7 rfl rfl ?_
  have n1_ := k.1
  have k := k.2
  refine hq_zast 8 rfl rfl n1_ (by decide) rfl ?_
  refine sp_aload_n 9 rfl rfl rfl ?_
  refine sc_V 12 rfl rfl rfl rfl rfl (Nat.le_refl _) (Nat.le_refl _) rfl ?_
  refine mm_s_mono _ _ _ _ _ _ ?_ k
  rintro r_ h_ ⟨I1, J1, rfl, rfl, k⟩
  exact st_vret rfl rfl (Nat.le_refl _) (Nat.le_refl _) k
theorem sg_X11_left {SL : Nat} {xs : Nat → Int32} {d : Nat} {p s q : Nat} {Q : Option Value → mm_H → Prop}  {I : Nat → Nat → Int32} {J : Nat → Nat → Int64}  (k : (mm_s SL xs (d + 5) 203 [.ref 65] (hp p s q I J) (fun r_ h_ => ∃ I1 J1, r_ = none ∧ h_ = hp p s q I1 J1 ∧ (mm_s SL xs (d + 5) 216 [.ref 65] (hp p s q I1 J1) (fun r_ h_ => ∃ x2 I2 J2, r_ = some (.long x2) ∧ h_ = hp p s q I2 J2 ∧ Q (some (.long x2)) (hp p s q I2 J2)))))) : mm_s SL xs (d + 6) 217 [.ref 65] (hp p s q I J) Q := by
  refine e_X11_left rfl ?_
  refine sp_aload_n 1 rfl rfl rfl ?_
  refine sc_V 4 rfl rfl rfl rfl rfl (Nat.le_refl _) (Nat.le_refl _) rfl ?_
  refine mm_s_mono _ _ _ _ _ _ ?_ k
  rintro r_ h_ ⟨I1, J1, rfl, rfl, k⟩
  refine sp_aload_n 5 rfl rfl rfl ?_
  refine sc_V 8 rfl rfl rfl rfl rfl (Nat.le_refl _) (Nat.le_refl _) rfl ?_
  refine mm_s_mono _ _ _ _ _ _ ?_ k
  rintro r_ h_ ⟨x2, I2, J2, rfl, rfl, k⟩
  exact st_lret rfl rfl (Nat.le_refl _) (Nat.le_refl _) k
theorem sg_X11_isLateLeft {SL : Nat} {xs : Nat → Int32} {d : Nat} {p s q : Nat} {Q : Option Value → mm_H → Prop} {a0 : Int32} {a1 : Int32} {I : Nat → Nat → Int32} {J : Nat → Nat → Int64}  (k : (mm_s SL xs (d + 5) 219 [.ref 65, .int a0] (hp p s q I J) (fun r_ h_ => ∃ I1 J1, r_ = none ∧ h_ = hp p s q I1 J1 ∧ (vp_in a1 60 ∧ (((I1 91 ((a1).toNatClampNeg)) = Int32.ofInt 0 → (mm_s SL xs (d + 5) 221 [.ref 65] (hp p s q (mm_u (mm_u (mm_u (mm_u I1 91 ((a1).toNatClampNeg) (Int32.ofInt 1)) 87 ((a1).toNatClampNeg) (Int32.ofInt 0)) 88 ((a1).toNatClampNeg) (Int32.ofInt (-1))) 65 59 ((I1 65 59) + (Int32.ofInt 1))) J1) (fun r_ h_ => ∃ I2 J2, r_ = none ∧ h_ = hp p s q I2 J2 ∧ (((I2 91 ((a1).toNatClampNeg)) = 0 ∨ (I2 91 ((a1).toNatClampNeg)) = 1) ∧ Q (some (.int (I2 91 ((a1).toNatClampNeg)))) (hp p s q I2 J2))))) ∧ (¬ ((I1 91 ((a1).toNatClampNeg)) = Int32.ofInt 0) → Q (some (.int (Int32.ofInt 0))) (hp p s q I1 J1))))))) : mm_s SL xs (d + 6) 220 [.ref 65, .int a0, .int a1] (hp p s q I J) Q := by
  refine e_X11_isLateLeft rfl ?_
  refine sp_aload_n 1 rfl rfl rfl ?_
  refine sp_iload_n 2 rfl rfl rfl ?_
  refine sc_V 5 rfl rfl rfl rfl rfl (Nat.le_refl _) (Nat.le_refl _) rfl ?_
  refine mm_s_mono _ _ _ _ _ _ ?_ k
  rintro r_ h_ ⟨I1, J1, rfl, rfl, k⟩
  refine sp_aload_n 6 rfl rfl rfl ?_
  refine hq_getR 9 rfl rfl rfl rfl ?_
  refine sp_iload_n 10 rfl rfl rfl ?_
  have n1_ := k.1
  have k := k.2
  refine hq_zald 11 rfl rfl n1_ rfl ?_
  refine sp_if_eq 14 rfl rfl (fun q => ?_) (fun q => ?_)
  · have k := k.1 q
    refine sp_aload_n 17 rfl rfl rfl ?_
    refine hq_getR 20 rfl rfl rfl rfl ?_
    refine sp_iload_n 21 rfl rfl rfl ?_
    refine sp_iconst 22 rfl rfl ?_
    refine hq_zast 23 rfl rfl n1_ (by decide) rfl ?_
    refine sp_aload_n 24 rfl rfl rfl ?_
    refine hq_getR 27 rfl rfl rfl rfl ?_
    refine sp_iload_n 28 rfl rfl rfl ?_
    refine sp_iconst 29 rfl rfl ?_
    refine hq_iast 30 rfl rfl n1_ rfl ?_
    refine sp_aload_n 31 rfl rfl rfl ?_
    refine hq_getR 34 rfl rfl rfl rfl ?_
    refine sp_iload_n 35 rfl rfl rfl ?_
    refine sp_iconst 36 rfl rfl ?_
    refine hq_iast 37 rfl rfl n1_ rfl ?_
    refine sp_aload_n 38 rfl rfl rfl ?_
    refine sp_dup 39 rfl rfl rfl ?_
    refine hq_getI 42 rfl rfl rfl ?_
    refine sp_I (y := (I1 65 59)) (by simp [mm_u]) ?_
    refine sp_iconst 43 rfl rfl ?_
    refine sp_iadd 44 rfl rfl ?_
    refine hq_putI 47 rfl rfl rfl ?_
    refine sp_aload_n 48 rfl rfl rfl ?_
    refine sc_V 51 rfl rfl rfl rfl rfl (Nat.le_refl _) (Nat.le_refl _) rfl ?_
    refine mm_s_mono _ _ _ _ _ _ ?_ k
    rintro r_ h_ ⟨I2, J2, rfl, rfl, k⟩
    refine sp_aload_n 52 rfl rfl rfl ?_
    refine hq_getR 55 rfl rfl rfl rfl ?_
    refine sp_iload_n 56 rfl rfl rfl ?_
    refine hq_zald 57 rfl rfl n1_ rfl ?_
    exact st_zret rfl rfl k.1 (Nat.le_refl _) (Nat.le_refl _) k.2
  · have k := k.2 q
    refine sp_iconst 15 rfl rfl ?_
    exact st_zret rfl rfl (by decide) (Nat.le_refl _) (Nat.le_refl _) k
theorem sg_X11_stay {SL : Nat} {xs : Nat → Int32} {d : Nat} {p s q : Nat} {Q : Option Value → mm_H → Prop} {a0 : Int32} {I : Nat → Nat → Int32} {J : Nat → Nat → Int64}  (k : ((a0 < (Int32.ofInt 1) → Q (some (.long (Int64.ofInt (-1)))) (hp p s q I J)) ∧ (¬ (a0 < (Int32.ofInt 1)) → ((a0 ≤ (Int32.ofInt 59) → (mm_s SL xs (d + 5) 203 [.ref 65] (hp p s q I J) (fun r_ h_ => ∃ I1 J1, r_ = none ∧ h_ = hp p s q I1 J1 ∧ (mm_s SL xs (d + 5) 216 [.ref 65] (hp p s q (mm_u I1 65 78 a0) J1) (fun r_ h_ => ∃ x2 I2 J2, r_ = some (.long x2) ∧ h_ = hp p s q I2 J2 ∧ Q (some (.long x2)) (hp p s q I2 J2)))))) ∧ (¬ (a0 ≤ (Int32.ofInt 59)) → Q (some (.long (Int64.ofInt (-1)))) (hp p s q I J)))))) : mm_s SL xs (d + 6) 224 [.ref 65, .int a0] (hp p s q I J) Q := by
  refine e_X11_stay rfl ?_
  refine sp_iload_n 1 rfl rfl rfl ?_
  refine sp_iconst 2 rfl rfl ?_
  refine sp_ic_lt 5 rfl rfl (fun q => ?_) (fun q => ?_)
  · have k := k.1 q
    refine sp_ldc2 14 rfl rfl ?_
    exact st_lret rfl rfl (Nat.le_refl _) (Nat.le_refl _) k
  · have k := k.2 q
    refine sp_iload_n 6 rfl rfl rfl ?_
    refine sp_bipush 8 rfl rfl ?_
    refine sp_I (y := Int32.ofInt 59) rfl ?_
    refine sp_ic_le 11 rfl rfl (fun q => ?_) (fun q => ?_)
    · have k := k.1 q
      refine sp_aload_n 16 rfl rfl rfl ?_
      refine sc_V 19 rfl rfl rfl rfl rfl (Nat.le_refl _) (Nat.le_refl _) rfl ?_
      refine mm_s_mono _ _ _ _ _ _ ?_ k
      rintro r_ h_ ⟨I1, J1, rfl, rfl, k⟩
      refine sp_aload_n 20 rfl rfl rfl ?_
      refine sp_iload_n 21 rfl rfl rfl ?_
      refine hq_putI 24 rfl rfl rfl ?_
      refine sp_aload_n 25 rfl rfl rfl ?_
      refine sc_V 28 rfl rfl rfl rfl rfl (Nat.le_refl _) (Nat.le_refl _) rfl ?_
      refine mm_s_mono _ _ _ _ _ _ ?_ k
      rintro r_ h_ ⟨x2, I2, J2, rfl, rfl, k⟩
      exact st_lret rfl rfl (Nat.le_refl _) (Nat.le_refl _) k
    · have k := k.2 q
      refine sp_ldc2 14 rfl rfl ?_
      exact st_lret rfl rfl (Nat.le_refl _) (Nat.le_refl _) k
def w_X11_readLine_30 (SL : Nat) (xs : Nat → Int32) (d : Nat) (p s q : Nat) (Q : Option Value → mm_H → Prop)  (I : Nat → Nat → Int32) (J : Nat → Nat → Int64) : Prop := mm_w SL xs (mm_s SL xs (d + 6)) mm_am kX11_readLine 0 0 none Q 30 [some (.ref 65)] [] (hp p s q I J) 0 0
def w_X11_readLine_60 (SL : Nat) (xs : Nat → Int32) (d : Nat) (p s q : Nat) (Q : Option Value → mm_H → Prop)  (I : Nat → Nat → Int32) (J : Nat → Nat → Int64) : Prop := mm_w SL xs (mm_s SL xs (d + 6)) mm_am kX11_readLine 0 0 none Q 60 [some (.ref 65)] [] (hp p s q I J) 0 0
def w_X11_readLine_90 (SL : Nat) (xs : Nat → Int32) (d : Nat) (p s q : Nat) (Q : Option Value → mm_H → Prop)  (I : Nat → Nat → Int32) (J : Nat → Nat → Int64) : Prop := mm_w SL xs (mm_s SL xs (d + 6)) mm_am kX11_readLine 0 0 none Q 90 [some (.ref 65)] [] (hp p s q I J) 0 0
def w_X11_readLine_117 (SL : Nat) (xs : Nat → Int32) (d : Nat) (p s q : Nat) (Q : Option Value → mm_H → Prop)  (I : Nat → Nat → Int32) (J : Nat → Nat → Int64) : Prop := mm_w SL xs (mm_s SL xs (d + 6)) mm_am kX11_readLine 0 0 none Q 117 [some (.ref 65)] [] (hp p s q I J) 0 0
def w_X11_readLine_147 (SL : Nat) (xs : Nat → Int32) (d : Nat) (p s q : Nat) (Q : Option Value → mm_H → Prop)  (I : Nat → Nat → Int32) (J : Nat → Nat → Int64) : Prop := mm_w SL xs (mm_s SL xs (d + 6)) mm_am kX11_readLine 0 0 none Q 147 [some (.ref 65)] [] (hp p s q I J) 0 0
def w_X11_readLine_177 (SL : Nat) (xs : Nat → Int32) (d : Nat) (p s q : Nat) (Q : Option Value → mm_H → Prop)  (I : Nat → Nat → Int32) (J : Nat → Nat → Int64) : Prop := mm_w SL xs (mm_s SL xs (d + 6)) mm_am kX11_readLine 0 0 none Q 177 [some (.ref 65)] [] (hp p s q I J) 0 0
def w_X11_readLine_207 (SL : Nat) (xs : Nat → Int32) (d : Nat) (p s q : Nat) (Q : Option Value → mm_H → Prop)  (I : Nat → Nat → Int32) (J : Nat → Nat → Int64) : Prop := mm_w SL xs (mm_s SL xs (d + 6)) mm_am kX11_readLine 0 0 none Q 207 [some (.ref 65)] [] (hp p s q I J) 0 0
def w_X11_readLine_233 (SL : Nat) (xs : Nat → Int32) (d : Nat) (p s q : Nat) (Q : Option Value → mm_H → Prop)  (I : Nat → Nat → Int32) (J : Nat → Nat → Int64) : Prop := mm_w SL xs (mm_s SL xs (d + 6)) mm_am kX11_readLine 0 0 none Q 233 [some (.ref 65)] [] (hp p s q I J) 0 0
def w_X11_readLine_260 (SL : Nat) (xs : Nat → Int32) (d : Nat) (p s q : Nat) (Q : Option Value → mm_H → Prop)  (I : Nat → Nat → Int32) (J : Nat → Nat → Int64) : Prop := mm_w SL xs (mm_s SL xs (d + 6)) mm_am kX11_readLine 0 0 none Q 260 [some (.ref 65)] [] (hp p s q I J) 0 0
def w_X11_readLine_286 (SL : Nat) (xs : Nat → Int32) (d : Nat) (p s q : Nat) (Q : Option Value → mm_H → Prop)  (I : Nat → Nat → Int32) (J : Nat → Nat → Int64) : Prop := mm_w SL xs (mm_s SL xs (d + 6)) mm_am kX11_readLine 0 0 none Q 286 [some (.ref 65)] [] (hp p s q I J) 0 0
def w_X11_readLine_312 (SL : Nat) (xs : Nat → Int32) (d : Nat) (p s q : Nat) (Q : Option Value → mm_H → Prop)  (I : Nat → Nat → Int32) (J : Nat → Nat → Int64) : Prop := mm_w SL xs (mm_s SL xs (d + 6)) mm_am kX11_readLine 0 0 none Q 312 [some (.ref 65)] [] (hp p s q I J) 0 0
def w_X11_readLine_317 (SL : Nat) (xs : Nat → Int32) (d : Nat) (p s q : Nat) (Q : Option Value → mm_H → Prop)  (I : Nat → Nat → Int32) (J : Nat → Nat → Int64) : Prop := mm_w SL xs (mm_s SL xs (d + 6)) mm_am kX11_readLine 0 0 none Q 317 [some (.ref 65)] [] (hp p s q I J) 0 0
def w_X11_readLine_338 (SL : Nat) (xs : Nat → Int32) (d : Nat) (p s q : Nat) (Q : Option Value → mm_H → Prop)  (I : Nat → Nat → Int32) (J : Nat → Nat → Int64) : Prop := mm_w SL xs (mm_s SL xs (d + 6)) mm_am kX11_readLine 0 0 none Q 338 [some (.ref 65)] [] (hp p s q I J) 0 0
theorem sg_X11_readLine {SL : Nat} {xs : Nat → Int32} {d : Nat} {p s q : Nat} {Q : Option Value → mm_H → Prop}  {I : Nat → Nat → Int32} {J : Nat → Nat → Int64}  (k : (((sy_X11_isWord (Int64.ofInt 495873781348) I J) = Int32.ofInt 0 → w_X11_readLine_30 SL xs d p s q Q  I J) ∧ (¬ ((sy_X11_isWord (Int64.ofInt 495873781348) I J) = Int32.ofInt 0) → (vp_in (Int32.ofInt 0) 8 ∧ (((I 85 (((Int32.ofInt 0)).toNatClampNeg)) = Int32.ofInt 0 → (mm_s SL xs (d + 6) 191 [.ref 65, .int (Int32.ofInt 0), .int (Int32.ofInt 1), .int (Int32.ofInt 60)] (hp p s q I J) (fun r_ h_ => ∃ I1 J1, r_ = none ∧ h_ = hp p s q I1 J1 ∧ w_X11_readLine_317 SL xs d p s q Q  I1 J1))) ∧ (¬ ((I 85 (((Int32.ofInt 0)).toNatClampNeg)) = Int32.ofInt 0) → w_X11_readLine_30 SL xs d p s q Q  I J)))))) : mm_s SL xs (d + 7) 197 [.ref 65] (hp p s q I J) Q := by
  refine e_X11_readLine rfl ?_
  refine sp_aload_n 1 rfl rfl rfl ?_
  refine sp_ldc2 4 rfl rfl ?_
  refine sc_V 7 rfl rfl rfl rfl rfl (Nat.le_refl _) (Nat.le_refl _) rfl ?_
  refine cy_X11_isWord ?_
  refine sp_if_eq 10 rfl rfl (fun q => ?_) (fun q => ?_)
  · have k := k.1 q
    exact k
  · have k := k.2 q
    refine sp_aload_n 11 rfl rfl rfl ?_
    refine hq_getR 14 rfl rfl rfl rfl ?_
    refine sp_iconst 15 rfl rfl ?_
    have n1_ := k.1
    have k := k.2
    refine hq_zald 16 rfl rfl n1_ rfl ?_
    refine sp_if_ne 19 rfl rfl (fun q => ?_) (fun q => ?_)
    · have k := k.2 q
      exact k
    · have k := k.1 q
      refine sp_aload_n 20 rfl rfl rfl ?_
      refine sp_iconst 21 rfl rfl ?_
      refine sp_iconst 22 rfl rfl ?_
      refine sp_bipush 24 rfl rfl ?_
      refine sp_I (y := Int32.ofInt 60) rfl ?_
      refine sc_V 27 rfl rfl rfl rfl rfl (Nat.le_refl _) (Nat.le_refl _) rfl ?_
      refine mm_s_mono _ _ _ _ _ _ ?_ k
      rintro r_ h_ ⟨I1, J1, rfl, rfl, k⟩
      refine sp_goto rfl ?_
      exact k
theorem sg_X11_readLine_30 {SL : Nat} {xs : Nat → Int32} {d : Nat} {p s q : Nat} {Q : Option Value → mm_H → Prop}  {I : Nat → Nat → Int32} {J : Nat → Nat → Int64}  (k : (((sy_X11_isWord (Int64.ofInt 422608071022) I J) = Int32.ofInt 0 → w_X11_readLine_60 SL xs d p s q Q  I J) ∧ (¬ ((sy_X11_isWord (Int64.ofInt 422608071022) I J) = Int32.ofInt 0) → (vp_in (Int32.ofInt 1) 8 ∧ (((I 85 (((Int32.ofInt 1)).toNatClampNeg)) = Int32.ofInt 0 → (mm_s SL xs (d + 6) 191 [.ref 65, .int (Int32.ofInt 1), .int (Int32.ofInt 0), .int (Int32.ofInt 59)] (hp p s q I J) (fun r_ h_ => ∃ I1 J1, r_ = none ∧ h_ = hp p s q I1 J1 ∧ w_X11_readLine_317 SL xs d p s q Q  I1 J1))) ∧ (¬ ((I 85 (((Int32.ofInt 1)).toNatClampNeg)) = Int32.ofInt 0) → w_X11_readLine_60 SL xs d p s q Q  I J)))))) : w_X11_readLine_30 SL xs d p s q Q  I J := by
  unfold w_X11_readLine_30
  refine sp_aload_n 31 rfl rfl rfl ?_
  refine sp_ldc2 34 rfl rfl ?_
  refine sc_V 37 rfl rfl rfl rfl rfl (Nat.le_refl _) (Nat.le_refl _) rfl ?_
  refine cy_X11_isWord ?_
  refine sp_if_eq 40 rfl rfl (fun q => ?_) (fun q => ?_)
  · have k := k.1 q
    exact k
  · have k := k.2 q
    refine sp_aload_n 41 rfl rfl rfl ?_
    refine hq_getR 44 rfl rfl rfl rfl ?_
    refine sp_iconst 45 rfl rfl ?_
    have n2_ := k.1
    have k := k.2
    refine hq_zald 46 rfl rfl n2_ rfl ?_
    refine sp_if_ne 49 rfl rfl (fun q => ?_) (fun q => ?_)
    · have k := k.2 q
      exact k
    · have k := k.1 q
      refine sp_aload_n 50 rfl rfl rfl ?_
      refine sp_iconst 51 rfl rfl ?_
      refine sp_iconst 52 rfl rfl ?_
      refine sp_bipush 54 rfl rfl ?_
      refine sp_I (y := Int32.ofInt 59) rfl ?_
      refine sc_V 57 rfl rfl rfl rfl rfl (Nat.le_refl _) (Nat.le_refl _) rfl ?_
      refine mm_s_mono _ _ _ _ _ _ ?_ k
      rintro r_ h_ ⟨I1, J1, rfl, rfl, k⟩
      refine sp_goto rfl ?_
      exact k
theorem sg_X11_readLine_60 {SL : Nat} {xs : Nat → Int32} {d : Nat} {p s q : Nat} {Q : Option Value → mm_H → Prop}  {I : Nat → Nat → Int32} {J : Nat → Nat → Int64}  (k : (((sy_X11_isWord (Int64.ofInt 1818584692) I J) = Int32.ofInt 0 → w_X11_readLine_90 SL xs d p s q Q  I J) ∧ (¬ ((sy_X11_isWord (Int64.ofInt 1818584692) I J) = Int32.ofInt 0) → (vp_in (Int32.ofInt 2) 8 ∧ (((I 85 (((Int32.ofInt 2)).toNatClampNeg)) = Int32.ofInt 0 → (mm_s SL xs (d + 6) 191 [.ref 65, .int (Int32.ofInt 2), .int (Int32.ofInt 1), .int (Int32.ofInt 59)] (hp p s q I J) (fun r_ h_ => ∃ I1 J1, r_ = none ∧ h_ = hp p s q I1 J1 ∧ w_X11_readLine_317 SL xs d p s q Q  I1 J1))) ∧ (¬ ((I 85 (((Int32.ofInt 2)).toNatClampNeg)) = Int32.ofInt 0) → w_X11_readLine_90 SL xs d p s q Q  I J)))))) : w_X11_readLine_60 SL xs d p s q Q  I J := by
  unfold w_X11_readLine_60
  refine sp_aload_n 61 rfl rfl rfl ?_
  refine sp_ldc2 64 rfl rfl ?_
  refine sc_V 67 rfl rfl rfl rfl rfl (Nat.le_refl _) (Nat.le_refl _) rfl ?_
  refine cy_X11_isWord ?_
  refine sp_if_eq 70 rfl rfl (fun q => ?_) (fun q => ?_)
  · have k := k.1 q
    exact k
  · have k := k.2 q
    refine sp_aload_n 71 rfl rfl rfl ?_
    refine hq_getR 74 rfl rfl rfl rfl ?_
    refine sp_iconst 75 rfl rfl ?_
    have n3_ := k.1
    have k := k.2
    refine hq_zald 76 rfl rfl n3_ rfl ?_
    refine sp_if_ne 79 rfl rfl (fun q => ?_) (fun q => ?_)
    · have k := k.2 q
      exact k
    · have k := k.1 q
      refine sp_aload_n 80 rfl rfl rfl ?_
      refine sp_iconst 81 rfl rfl ?_
      refine sp_iconst 82 rfl rfl ?_
      refine sp_bipush 84 rfl rfl ?_
      refine sp_I (y := Int32.ofInt 59) rfl ?_
      refine sc_V 87 rfl rfl rfl rfl rfl (Nat.le_refl _) (Nat.le_refl _) rfl ?_
      refine mm_s_mono _ _ _ _ _ _ ?_ k
      rintro r_ h_ ⟨I1, J1, rfl, rfl, k⟩
      refine sp_goto rfl ?_
      exact k
theorem sg_X11_readLine_90 {SL : Nat} {xs : Nat → Int32} {d : Nat} {p s q : Nat} {Q : Option Value → mm_H → Prop}  {I : Nat → Nat → Int32} {J : Nat → Nat → Int64}  (k : (((sy_X11_isWord (Int64.ofInt 427071729268) I J) = Int32.ofInt 0 → w_X11_readLine_117 SL xs d p s q Q  I J) ∧ (¬ ((sy_X11_isWord (Int64.ofInt 427071729268) I J) = Int32.ofInt 0) → (vp_in (Int32.ofInt 6) 8 ∧ (((I 85 (((Int32.ofInt 6)).toNatClampNeg)) = Int32.ofInt 0 → (mm_s SL xs (d + 6) 196 [.ref 65] (hp p s q I J) (fun r_ h_ => ∃ I1 J1, r_ = none ∧ h_ = hp p s q I1 J1 ∧ w_X11_readLine_317 SL xs d p s q Q  I1 J1))) ∧ (¬ ((I 85 (((Int32.ofInt 6)).toNatClampNeg)) = Int32.ofInt 0) → w_X11_readLine_117 SL xs d p s q Q  I J)))))) : w_X11_readLine_90 SL xs d p s q Q  I J := by
  unfold w_X11_readLine_90
  refine sp_aload_n 91 rfl rfl rfl ?_
  refine sp_ldc2 94 rfl rfl ?_
  refine sc_V 97 rfl rfl rfl rfl rfl (Nat.le_refl _) (Nat.le_refl _) rfl ?_
  refine cy_X11_isWord ?_
  refine sp_if_eq 100 rfl rfl (fun q => ?_) (fun q => ?_)
  · have k := k.1 q
    exact k
  · have k := k.2 q
    refine sp_aload_n 101 rfl rfl rfl ?_
    refine hq_getR 104 rfl rfl rfl rfl ?_
    refine sp_bipush 106 rfl rfl ?_
    refine sp_I (y := Int32.ofInt 6) rfl ?_
    have n4_ := k.1
    have k := k.2
    refine hq_zald 107 rfl rfl n4_ rfl ?_
    refine sp_if_ne 110 rfl rfl (fun q => ?_) (fun q => ?_)
    · have k := k.2 q
      exact k
    · have k := k.1 q
      refine sp_aload_n 111 rfl rfl rfl ?_
      refine sc_V 114 rfl rfl rfl rfl rfl (Nat.le_refl _) (Nat.le_refl _) rfl ?_
      refine mm_s_mono _ _ _ _ _ _ ?_ k
      rintro r_ h_ ⟨I1, J1, rfl, rfl, k⟩
      refine sp_goto rfl ?_
      exact k
theorem sg_X11_readLine_117 {SL : Nat} {xs : Nat → Int32} {d : Nat} {p s q : Nat} {Q : Option Value → mm_H → Prop}  {I : Nat → Nat → Int32} {J : Nat → Nat → Int64}  (k : (((sy_X11_isWord (Int64.ofInt 1953854062) I J) = Int32.ofInt 0 → w_X11_readLine_147 SL xs d p s q Q  I J) ∧ (¬ ((sy_X11_isWord (Int64.ofInt 1953854062) I J) = Int32.ofInt 0) → (vp_in (Int32.ofInt 3) 8 ∧ (((I 85 (((Int32.ofInt 3)).toNatClampNeg)) = Int32.ofInt 0 → (mm_s SL xs (d + 6) 191 [.ref 65, .int (Int32.ofInt 3), .int (Int32.ofInt 1), .int (Int32.ofInt 99)] (hp p s q I J) (fun r_ h_ => ∃ I1 J1, r_ = none ∧ h_ = hp p s q I1 J1 ∧ w_X11_readLine_317 SL xs d p s q Q  I1 J1))) ∧ (¬ ((I 85 (((Int32.ofInt 3)).toNatClampNeg)) = Int32.ofInt 0) → w_X11_readLine_147 SL xs d p s q Q  I J)))))) : w_X11_readLine_117 SL xs d p s q Q  I J := by
  unfold w_X11_readLine_117
  refine sp_aload_n 118 rfl rfl rfl ?_
  refine sp_ldc2 121 rfl rfl ?_
  refine sc_V 124 rfl rfl rfl rfl rfl (Nat.le_refl _) (Nat.le_refl _) rfl ?_
  refine cy_X11_isWord ?_
  refine sp_if_eq 127 rfl rfl (fun q => ?_) (fun q => ?_)
  · have k := k.1 q
    exact k
  · have k := k.2 q
    refine sp_aload_n 128 rfl rfl rfl ?_
    refine hq_getR 131 rfl rfl rfl rfl ?_
    refine sp_iconst 132 rfl rfl ?_
    have n5_ := k.1
    have k := k.2
    refine hq_zald 133 rfl rfl n5_ rfl ?_
    refine sp_if_ne 136 rfl rfl (fun q => ?_) (fun q => ?_)
    · have k := k.2 q
      exact k
    · have k := k.1 q
      refine sp_aload_n 137 rfl rfl rfl ?_
      refine sp_iconst 138 rfl rfl ?_
      refine sp_iconst 139 rfl rfl ?_
      refine sp_bipush 141 rfl rfl ?_
      refine sp_I (y := Int32.ofInt 99) rfl ?_
      refine sc_V 144 rfl rfl rfl rfl rfl (Nat.le_refl _) (Nat.le_refl _) rfl ?_
      refine mm_s_mono _ _ _ _ _ _ ?_ k
      rintro r_ h_ ⟨I1, J1, rfl, rfl, k⟩
      refine sp_goto rfl ?_
      exact k
theorem sg_X11_readLine_147 {SL : Nat} {xs : Nat → Int32} {d : Nat} {p s q : Nat} {Q : Option Value → mm_H → Prop}  {I : Nat → Nat → Int32} {J : Nat → Nat → Int64}  (k : (((sy_X11_isWord (Int64.ofInt 418346264942) I J) = Int32.ofInt 0 → w_X11_readLine_177 SL xs d p s q Q  I J) ∧ (¬ ((sy_X11_isWord (Int64.ofInt 418346264942) I J) = Int32.ofInt 0) → (vp_in (Int32.ofInt 4) 8 ∧ (((I 85 (((Int32.ofInt 4)).toNatClampNeg)) = Int32.ofInt 0 → (mm_s SL xs (d + 6) 191 [.ref 65, .int (Int32.ofInt 4), .int (Int32.ofInt 0), .int (Int32.ofInt 9)] (hp p s q I J) (fun r_ h_ => ∃ I1 J1, r_ = none ∧ h_ = hp p s q I1 J1 ∧ w_X11_readLine_317 SL xs d p s q Q  I1 J1))) ∧ (¬ ((I 85 (((Int32.ofInt 4)).toNatClampNeg)) = Int32.ofInt 0) → w_X11_readLine_177 SL xs d p s q Q  I J)))))) : w_X11_readLine_147 SL xs d p s q Q  I J := by
  unfold w_X11_readLine_147
  refine sp_aload_n 148 rfl rfl rfl ?_
  refine sp_ldc2 151 rfl rfl ?_
  refine sc_V 154 rfl rfl rfl rfl rfl (Nat.le_refl _) (Nat.le_refl _) rfl ?_
  refine cy_X11_isWord ?_
  refine sp_if_eq 157 rfl rfl (fun q => ?_) (fun q => ?_)
  · have k := k.1 q
    exact k
  · have k := k.2 q
    refine sp_aload_n 158 rfl rfl rfl ?_
    refine hq_getR 161 rfl rfl rfl rfl ?_
    refine sp_iconst 162 rfl rfl ?_
    have n6_ := k.1
    have k := k.2
    refine hq_zald 163 rfl rfl n6_ rfl ?_
    refine sp_if_ne 166 rfl rfl (fun q => ?_) (fun q => ?_)
    · have k := k.2 q
      exact k
    · have k := k.1 q
      refine sp_aload_n 167 rfl rfl rfl ?_
      refine sp_iconst 168 rfl rfl ?_
      refine sp_iconst 169 rfl rfl ?_
      refine sp_bipush 171 rfl rfl ?_
      refine sp_I (y := Int32.ofInt 9) rfl ?_
      refine sc_V 174 rfl rfl rfl rfl rfl (Nat.le_refl _) (Nat.le_refl _) rfl ?_
      refine mm_s_mono _ _ _ _ _ _ ?_ k
      rintro r_ h_ ⟨I1, J1, rfl, rfl, k⟩
      refine sp_goto rfl ?_
      exact k
theorem sg_X11_readLine_177 {SL : Nat} {xs : Nat → Int32} {d : Nat} {p s q : Nat} {Q : Option Value → mm_H → Prop}  {I : Nat → Nat → Int32} {J : Nat → Nat → Int64}  (k : (((sy_X11_isWord (Int64.ofInt 6451065) I J) = Int32.ofInt 0 → w_X11_readLine_207 SL xs d p s q Q  I J) ∧ (¬ ((sy_X11_isWord (Int64.ofInt 6451065) I J) = Int32.ofInt 0) → (vp_in (Int32.ofInt 5) 8 ∧ (((I 85 (((Int32.ofInt 5)).toNatClampNeg)) = Int32.ofInt 0 → (mm_s SL xs (d + 6) 191 [.ref 65, .int (Int32.ofInt 5), .int (Int32.ofInt 0), .int (Int32.ofInt 59)] (hp p s q I J) (fun r_ h_ => ∃ I1 J1, r_ = none ∧ h_ = hp p s q I1 J1 ∧ w_X11_readLine_317 SL xs d p s q Q  I1 J1))) ∧ (¬ ((I 85 (((Int32.ofInt 5)).toNatClampNeg)) = Int32.ofInt 0) → w_X11_readLine_207 SL xs d p s q Q  I J)))))) : w_X11_readLine_177 SL xs d p s q Q  I J := by
  unfold w_X11_readLine_177
  refine sp_aload_n 178 rfl rfl rfl ?_
  refine sp_ldc2 181 rfl rfl ?_
  refine sc_V 184 rfl rfl rfl rfl rfl (Nat.le_refl _) (Nat.le_refl _) rfl ?_
  refine cy_X11_isWord ?_
  refine sp_if_eq 187 rfl rfl (fun q => ?_) (fun q => ?_)
  · have k := k.1 q
    exact k
  · have k := k.2 q
    refine sp_aload_n 188 rfl rfl rfl ?_
    refine hq_getR 191 rfl rfl rfl rfl ?_
    refine sp_iconst 192 rfl rfl ?_
    have n7_ := k.1
    have k := k.2
    refine hq_zald 193 rfl rfl n7_ rfl ?_
    refine sp_if_ne 196 rfl rfl (fun q => ?_) (fun q => ?_)
    · have k := k.2 q
      exact k
    · have k := k.1 q
      refine sp_aload_n 197 rfl rfl rfl ?_
      refine sp_iconst 198 rfl rfl ?_
      refine sp_iconst 199 rfl rfl ?_
      refine sp_bipush 201 rfl rfl ?_
      refine sp_I (y := Int32.ofInt 59) rfl ?_
      refine sc_V 204 rfl rfl rfl rfl rfl (Nat.le_refl _) (Nat.le_refl _) rfl ?_
      refine mm_s_mono _ _ _ _ _ _ ?_ k
      rintro r_ h_ ⟨I1, J1, rfl, rfl, k⟩
      refine sp_goto rfl ?_
      exact k
theorem sg_X11_readLine_207 {SL : Nat} {xs : Nat → Int32} {d : Nat} {p s q : Nat} {Q : Option Value → mm_H → Prop}  {I : Nat → Nat → Int32} {J : Nat → Nat → Int64}  (k : (((sy_X11_isWord (Int64.ofInt 444350952036) I J) = Int32.ofInt 0 → w_X11_readLine_233 SL xs d p s q Q  I J) ∧ (¬ ((sy_X11_isWord (Int64.ofInt 444350952036) I J) = Int32.ofInt 0) → (((Int32.ofInt 8) ≤ (I 65 37) → w_X11_readLine_233 SL xs d p s q Q  I J) ∧ (¬ ((Int32.ofInt 8) ≤ (I 65 37)) → (mm_s SL xs (d + 6) 192 [.ref 65] (hp p s q I J) (fun r_ h_ => ∃ I1 J1, r_ = none ∧ h_ = hp p s q I1 J1 ∧ w_X11_readLine_317 SL xs d p s q Q  I1 J1))))))) : w_X11_readLine_207 SL xs d p s q Q  I J := by
  unfold w_X11_readLine_207
  refine sp_aload_n 208 rfl rfl rfl ?_
  refine sp_ldc2 211 rfl rfl ?_
  refine sc_V 214 rfl rfl rfl rfl rfl (Nat.le_refl _) (Nat.le_refl _) rfl ?_
  refine cy_X11_isWord ?_
  refine sp_if_eq 217 rfl rfl (fun q => ?_) (fun q => ?_)
  · have k := k.1 q
    exact k
  · have k := k.2 q
    refine sp_aload_n 218 rfl rfl rfl ?_
    refine hq_getI 221 rfl rfl rfl ?_
    refine sp_bipush 223 rfl rfl ?_
    refine sp_I (y := Int32.ofInt 8) rfl ?_
    refine sp_ic_ge 226 rfl rfl (fun q => ?_) (fun q => ?_)
    · have k := k.1 q
      exact k
    · have k := k.2 q
      refine sp_aload_n 227 rfl rfl rfl ?_
      refine sc_V 230 rfl rfl rfl rfl rfl (Nat.le_refl _) (Nat.le_refl _) rfl ?_
      refine mm_s_mono _ _ _ _ _ _ ?_ k
      rintro r_ h_ ⟨I1, J1, rfl, rfl, k⟩
      refine sp_goto rfl ?_
      exact k
theorem sg_X11_readLine_233 {SL : Nat} {xs : Nat → Int32} {d : Nat} {p s q : Nat} {Q : Option Value → mm_H → Prop}  {I : Nat → Nat → Int32} {J : Nat → Nat → Int64}  (k : (((sy_X11_isWord (Int64.ofInt 491379060069) I J) = Int32.ofInt 0 → w_X11_readLine_260 SL xs d p s q Q  I J) ∧ (¬ ((sy_X11_isWord (Int64.ofInt 491379060069) I J) = Int32.ofInt 0) → (vp_in (Int32.ofInt 7) 8 ∧ (((I 85 (((Int32.ofInt 7)).toNatClampNeg)) = Int32.ofInt 0 → (mm_s SL xs (d + 6) 193 [.ref 65] (hp p s q I J) (fun r_ h_ => ∃ I1 J1, r_ = none ∧ h_ = hp p s q I1 J1 ∧ w_X11_readLine_317 SL xs d p s q Q  I1 J1))) ∧ (¬ ((I 85 (((Int32.ofInt 7)).toNatClampNeg)) = Int32.ofInt 0) → w_X11_readLine_260 SL xs d p s q Q  I J)))))) : w_X11_readLine_233 SL xs d p s q Q  I J := by
  unfold w_X11_readLine_233
  refine sp_aload_n 234 rfl rfl rfl ?_
  refine sp_ldc2 237 rfl rfl ?_
  refine sc_V 240 rfl rfl rfl rfl rfl (Nat.le_refl _) (Nat.le_refl _) rfl ?_
  refine cy_X11_isWord ?_
  refine sp_if_eq 243 rfl rfl (fun q => ?_) (fun q => ?_)
  · have k := k.1 q
    exact k
  · have k := k.2 q
    refine sp_aload_n 244 rfl rfl rfl ?_
    refine hq_getR 247 rfl rfl rfl rfl ?_
    refine sp_bipush 249 rfl rfl ?_
    refine sp_I (y := Int32.ofInt 7) rfl ?_
    have n8_ := k.1
    have k := k.2
    refine hq_zald 250 rfl rfl n8_ rfl ?_
    refine sp_if_ne 253 rfl rfl (fun q => ?_) (fun q => ?_)
    · have k := k.2 q
      exact k
    · have k := k.1 q
      refine sp_aload_n 254 rfl rfl rfl ?_
      refine sc_V 257 rfl rfl rfl rfl rfl (Nat.le_refl _) (Nat.le_refl _) rfl ?_
      refine mm_s_mono _ _ _ _ _ _ ?_ k
      rintro r_ h_ ⟨I1, J1, rfl, rfl, k⟩
      refine sp_goto rfl ?_
      exact k
theorem sg_X11_readLine_260 {SL : Nat} {xs : Nat → Int32} {d : Nat} {p s q : Nat} {Q : Option Value → mm_H → Prop}  {I : Nat → Nat → Int32} {J : Nat → Nat → Int64}  (k : (((sy_X11_isWord (Int64.ofInt 123581014175598) I J) = Int32.ofInt 0 → w_X11_readLine_286 SL xs d p s q Q  I J) ∧ (¬ ((sy_X11_isWord (Int64.ofInt 123581014175598) I J) = Int32.ofInt 0) → (((Int32.ofInt 9) ≤ (I 65 38) → w_X11_readLine_286 SL xs d p s q Q  I J) ∧ (¬ ((Int32.ofInt 9) ≤ (I 65 38)) → (mm_s SL xs (d + 6) 194 [.ref 65] (hp p s q I J) (fun r_ h_ => ∃ I1 J1, r_ = none ∧ h_ = hp p s q I1 J1 ∧ w_X11_readLine_317 SL xs d p s q Q  I1 J1))))))) : w_X11_readLine_260 SL xs d p s q Q  I J := by
  unfold w_X11_readLine_260
  refine sp_aload_n 261 rfl rfl rfl ?_
  refine sp_ldc2 264 rfl rfl ?_
  refine sc_V 267 rfl rfl rfl rfl rfl (Nat.le_refl _) (Nat.le_refl _) rfl ?_
  refine cy_X11_isWord ?_
  refine sp_if_eq 270 rfl rfl (fun q => ?_) (fun q => ?_)
  · have k := k.1 q
    exact k
  · have k := k.2 q
    refine sp_aload_n 271 rfl rfl rfl ?_
    refine hq_getI 274 rfl rfl rfl ?_
    refine sp_bipush 276 rfl rfl ?_
    refine sp_I (y := Int32.ofInt 9) rfl ?_
    refine sp_ic_ge 279 rfl rfl (fun q => ?_) (fun q => ?_)
    · have k := k.1 q
      exact k
    · have k := k.2 q
      refine sp_aload_n 280 rfl rfl rfl ?_
      refine sc_V 283 rfl rfl rfl rfl rfl (Nat.le_refl _) (Nat.le_refl _) rfl ?_
      refine mm_s_mono _ _ _ _ _ _ ?_ k
      rintro r_ h_ ⟨I1, J1, rfl, rfl, k⟩
      refine sp_goto rfl ?_
      exact k
theorem sg_X11_readLine_286 {SL : Nat} {xs : Nat → Int32} {d : Nat} {p s q : Nat} {Q : Option Value → mm_H → Prop}  {I : Nat → Nat → Int32} {J : Nat → Nat → Int64}  (k : (((sy_X11_isWord (Int64.ofInt 431415719790) I J) = Int32.ofInt 0 → w_X11_readLine_312 SL xs d p s q Q  I J) ∧ (¬ ((sy_X11_isWord (Int64.ofInt 431415719790) I J) = Int32.ofInt 0) → (((Int32.ofInt 12) ≤ (I 65 39) → w_X11_readLine_312 SL xs d p s q Q  I J) ∧ (¬ ((Int32.ofInt 12) ≤ (I 65 39)) → (mm_s SL xs (d + 6) 195 [.ref 65] (hp p s q I J) (fun r_ h_ => ∃ I1 J1, r_ = none ∧ h_ = hp p s q I1 J1 ∧ w_X11_readLine_317 SL xs d p s q Q  I1 J1))))))) : w_X11_readLine_286 SL xs d p s q Q  I J := by
  unfold w_X11_readLine_286
  refine sp_aload_n 287 rfl rfl rfl ?_
  refine sp_ldc2 290 rfl rfl ?_
  refine sc_V 293 rfl rfl rfl rfl rfl (Nat.le_refl _) (Nat.le_refl _) rfl ?_
  refine cy_X11_isWord ?_
  refine sp_if_eq 296 rfl rfl (fun q => ?_) (fun q => ?_)
  · have k := k.1 q
    exact k
  · have k := k.2 q
    refine sp_aload_n 297 rfl rfl rfl ?_
    refine hq_getI 300 rfl rfl rfl ?_
    refine sp_bipush 302 rfl rfl ?_
    refine sp_I (y := Int32.ofInt 12) rfl ?_
    refine sp_ic_ge 305 rfl rfl (fun q => ?_) (fun q => ?_)
    · have k := k.1 q
      exact k
    · have k := k.2 q
      refine sp_aload_n 306 rfl rfl rfl ?_
      refine sc_V 309 rfl rfl rfl rfl rfl (Nat.le_refl _) (Nat.le_refl _) rfl ?_
      refine mm_s_mono _ _ _ _ _ _ ?_ k
      rintro r_ h_ ⟨I1, J1, rfl, rfl, k⟩
      refine sp_goto rfl ?_
      exact k
theorem sg_X11_readLine_312 {SL : Nat} {xs : Nat → Int32} {d : Nat} {p s q : Nat} {Q : Option Value → mm_H → Prop}  {I : Nat → Nat → Int32} {J : Nat → Nat → Int64}  (k : (mm_s SL xs (d + 6) 173 [.ref 65, .int (Int32.ofInt 2)] (hp p s q I J) (fun r_ h_ => ∃ I1 J1, r_ = none ∧ h_ = hp p s q I1 J1 ∧ w_X11_readLine_317 SL xs d p s q Q  I1 J1))) : w_X11_readLine_312 SL xs d p s q Q  I J := by
  unfold w_X11_readLine_312
  refine sp_aload_n 313 rfl rfl rfl ?_
  refine sp_iconst 314 rfl rfl ?_
  refine sc_V 317 rfl rfl rfl rfl rfl (Nat.le_refl _) (Nat.le_refl _) rfl ?_
  refine mm_s_mono _ _ _ _ _ _ ?_ k
  rintro r_ h_ ⟨I1, J1, rfl, rfl, k⟩
  exact k
theorem sg_X11_readLine_317 {SL : Nat} {xs : Nat → Int32} {d : Nat} {p s q : Nat} {Q : Option Value → mm_H → Prop}  {I : Nat → Nat → Int32} {J : Nat → Nat → Int64}  (k : (((I 65 2) = Int32.ofInt 0 → (((I 65 6) = (Int32.ofInt 59) → w_X11_readLine_338 SL xs d p s q Q  I J) ∧ (¬ ((I 65 6) = (Int32.ofInt 59)) → (mm_s SL xs (d + 6) 173 [.ref 65, .int (Int32.ofInt 2)] (hp p s q I J) (fun r_ h_ => ∃ I1 J1, r_ = none ∧ h_ = hp p s q I1 J1 ∧ w_X11_readLine_338 SL xs d p s q Q  I1 J1))))) ∧ (¬ ((I 65 2) = Int32.ofInt 0) → w_X11_readLine_338 SL xs d p s q Q  I J))) : w_X11_readLine_317 SL xs d p s q Q  I J := by
  unfold w_X11_readLine_317
  refine sp_aload_n 318 rfl rfl rfl ?_
  refine hq_getI 321 rfl rfl rfl ?_
  refine sp_if_ne 324 rfl rfl (fun q => ?_) (fun q => ?_)
  · have k := k.2 q
    exact k
  · have k := k.1 q
    refine sp_aload_n 325 rfl rfl rfl ?_
    refine hq_getI 328 rfl rfl rfl ?_
    refine sp_bipush 330 rfl rfl ?_
    refine sp_I (y := Int32.ofInt 59) rfl ?_
    refine sp_ic_eq 333 rfl rfl (fun q => ?_) (fun q => ?_)
    · have k := k.1 q
      exact k
    · have k := k.2 q
      refine sp_aload_n 334 rfl rfl rfl ?_
      refine sp_iconst 335 rfl rfl ?_
      refine sc_V 338 rfl rfl rfl rfl rfl (Nat.le_refl _) (Nat.le_refl _) rfl ?_
      refine mm_s_mono _ _ _ _ _ _ ?_ k
      rintro r_ h_ ⟨I1, J1, rfl, rfl, k⟩
      exact k
theorem sg_X11_readLine_338 {SL : Nat} {xs : Nat → Int32} {d : Nat} {p s q : Nat} {Q : Option Value → mm_H → Prop}  {I : Nat → Nat → Int32} {J : Nat → Nat → Int64}  (k : (((I 65 2) = Int32.ofInt 0 → (mm_s SL xs (d + 6) 172 [.ref 65] (hp p s q I J) (fun r_ h_ => ∃ I1 J1, r_ = none ∧ h_ = hp p s q I1 J1 ∧ Q none (hp p s q I1 J1)))) ∧ (¬ ((I 65 2) = Int32.ofInt 0) → Q none (hp p s q I J)))) : w_X11_readLine_338 SL xs d p s q Q  I J := by
  unfold w_X11_readLine_338
  refine sp_aload_n 339 rfl rfl rfl ?_
  refine hq_getI 342 rfl rfl rfl ?_
  refine sp_if_ne 345 rfl rfl (fun q => ?_) (fun q => ?_)
  · have k := k.2 q
    exact st_vret rfl rfl (Nat.le_refl _) (Nat.le_refl _) k
  · have k := k.1 q
    refine sp_aload_n 346 rfl rfl rfl ?_
    refine sc_V 349 rfl rfl rfl rfl rfl (Nat.le_refl _) (Nat.le_refl _) rfl ?_
    refine mm_s_mono _ _ _ _ _ _ ?_ k
    rintro r_ h_ ⟨I1, J1, rfl, rfl, k⟩
    exact st_vret rfl rfl (Nat.le_refl _) (Nat.le_refl _) k
def w_X11_late_24 (SL : Nat) (xs : Nat → Int32) (d : Nat) (p s q : Nat) (Q : Option Value → mm_H → Prop) (v1 : Int32) (v2 : Int64) (v4 : Int32) (I : Nat → Nat → Int32) (J : Nat → Nat → Int64) : Prop := mm_w SL xs (mm_s SL xs (d + 6)) mm_am kX11_late 0 0 (some .long) Q 24 [some (.ref 65), some (.int v1), some (.long v2), none, some (.int v4)] [] (hp p s q I J) 0 0
theorem sg_X11_late {SL : Nat} {xs : Nat → Int32} {d : Nat} {p s q : Nat} {Q : Option Value → mm_H → Prop} {a0 : Int32} {I : Nat → Nat → Int32} {J : Nat → Nat → Int64}  (k : ((a0 < Int32.ofInt 0 → Q (some (.long (Int64.ofInt (-1)))) (hp p s q I J)) ∧ (¬ (a0 < Int32.ofInt 0) → ((a0 ≤ (Int32.ofInt 300) → (mm_s SL xs (d + 6) 203 [.ref 65] (hp p s q I J) (fun r_ h_ => ∃ I1 J1, r_ = none ∧ h_ = hp p s q I1 J1 ∧ w_X11_late_24 SL xs d p s q Q a0 (Int64.ofInt 0) (Int32.ofInt 0) I1 J1))) ∧ (¬ (a0 ≤ (Int32.ofInt 300)) → Q (some (.long (Int64.ofInt (-1)))) (hp p s q I J)))))) : mm_s SL xs (d + 7) 222 [.ref 65, .int a0] (hp p s q I J) Q := by
  refine e_X11_late rfl ?_
  refine sp_iload_n 1 rfl rfl rfl ?_
  refine sp_if_lt 4 rfl rfl (fun q => ?_) (fun q => ?_)
  · have k := k.1 q
    refine sp_ldc2 14 rfl rfl ?_
    exact st_lret rfl rfl (Nat.le_refl _) (Nat.le_refl _) k
  · have k := k.2 q
    refine sp_iload_n 5 rfl rfl rfl ?_
    refine sp_sipush 8 rfl rfl ?_
    refine sp_I (y := Int32.ofInt 300) rfl ?_
    refine sp_ic_le 11 rfl rfl (fun q => ?_) (fun q => ?_)
    · have k := k.1 q
      refine sp_aload_n 16 rfl rfl rfl ?_
      refine sc_V 19 rfl rfl rfl rfl rfl (Nat.le_refl _) (Nat.le_refl _) rfl ?_
      refine mm_s_mono _ _ _ _ _ _ ?_ k
      rintro r_ h_ ⟨I1, J1, rfl, rfl, k⟩
      refine sp_lconst 20 rfl rfl ?_
      refine sp_J (y := Int64.ofInt 0) rfl ?_
      refine sp_lstore_n 21 rfl rfl rfl ?_
      refine sp_iconst 22 rfl rfl ?_
      refine sp_istore 24 rfl rfl rfl ?_
      exact k
    · have k := k.2 q
      refine sp_ldc2 14 rfl rfl ?_
      exact st_lret rfl rfl (Nat.le_refl _) (Nat.le_refl _) k
theorem sg_X11_late_24 {SL : Nat} {xs : Nat → Int32} {d : Nat} {p s q : Nat} {Q : Option Value → mm_H → Prop} {v1 : Int32} {v2 : Int64} {v4 : Int32} {I : Nat → Nat → Int32} {J : Nat → Nat → Int64}  (k : (((I 65 47) ≤ v4 → Q (some (.long v2)) (hp p s q I J)) ∧ (¬ ((I 65 47) ≤ v4) → (mm_s SL xs (d + 6) 220 [.ref 65, .int v1, .int v4] (hp p s q I J) (fun r_ h_ => ∃ x1 I1 J1, r_ = some (.int x1) ∧ h_ = hp p s q I1 J1 ∧ ((x1 = Int32.ofInt 0 → (mm_s SL xs (d + 6) 204 [.ref 65] (hp p s q I1 J1) (fun r_ h_ => ∃ I2 J2, r_ = none ∧ h_ = hp p s q I2 J2 ∧ w_X11_late_24 SL xs d p s q Q v1 (v2 ||| (Int64.ofInt 0)) (v4 + Int32.ofInt 1) I2 J2))) ∧ (¬ (x1 = Int32.ofInt 0) → (mm_s SL xs (d + 6) 204 [.ref 65] (hp p s q I1 J1) (fun r_ h_ => ∃ I3 J3, r_ = none ∧ h_ = hp p s q I3 J3 ∧ w_X11_late_24 SL xs d p s q Q v1 (v2 ||| ((Int64.ofInt 1) <<< ((v4).toInt64 &&& 63))) (v4 + Int32.ofInt 1) I3 J3))))))))) : w_X11_late_24 SL xs d p s q Q v1 v2 v4 I J := by
  unfold w_X11_late_24
  refine sp_iload 26 rfl rfl rfl ?_
  refine sp_aload_n 27 rfl rfl rfl ?_
  refine hq_getI 30 rfl rfl rfl ?_
  refine sp_ic_ge 33 rfl rfl (fun q => ?_) (fun q => ?_)
  · have k := k.1 q
    refine sp_lload_n 65 rfl rfl rfl ?_
    exact st_lret rfl rfl (Nat.le_refl _) (Nat.le_refl _) k
  · have k := k.2 q
    refine sp_lload_n 34 rfl rfl rfl ?_
    refine sp_aload_n 35 rfl rfl rfl ?_
    refine sp_iload_n 36 rfl rfl rfl ?_
    refine sp_iload 38 rfl rfl rfl ?_
    refine sc_V 41 rfl rfl rfl rfl rfl (Nat.le_refl _) (Nat.le_refl _) rfl ?_
    refine mm_s_mono _ _ _ _ _ _ ?_ k
    rintro r_ h_ ⟨x1, I1, J1, rfl, rfl, k⟩
    refine sp_if_eq 44 rfl rfl (fun q => ?_) (fun q => ?_)
    · have k := k.1 q
      refine sp_lconst 52 rfl rfl ?_
      refine sp_J (y := Int64.ofInt 0) rfl ?_
      refine sp_lor 53 rfl rfl ?_
      refine sp_lstore_n 54 rfl rfl rfl ?_
      refine sp_aload_n 55 rfl rfl rfl ?_
      refine sc_V 58 rfl rfl rfl rfl rfl (Nat.le_refl _) (Nat.le_refl _) rfl ?_
      refine mm_s_mono _ _ _ _ _ _ ?_ k
      rintro r_ h_ ⟨I2, J2, rfl, rfl, k⟩
      refine sp_iinc 61 rfl rfl rfl rfl ?_
      refine sp_goto rfl ?_
      exact k
    · have k := k.2 q
      refine sp_lconst 45 rfl rfl ?_
      refine sp_J (y := Int64.ofInt 1) rfl ?_
      refine sp_iload 47 rfl rfl rfl ?_
      refine sp_lshl 48 rfl rfl ?_
      refine sp_goto rfl ?_
      refine sp_lor 53 rfl rfl ?_
      refine sp_lstore_n 54 rfl rfl rfl ?_
      refine sp_aload_n 55 rfl rfl rfl ?_
      refine sc_V 58 rfl rfl rfl rfl rfl (Nat.le_refl _) (Nat.le_refl _) rfl ?_
      refine mm_s_mono _ _ _ _ _ _ ?_ k
      rintro r_ h_ ⟨I3, J3, rfl, rfl, k⟩
      refine sp_iinc 61 rfl rfl rfl rfl ?_
      refine sp_goto rfl ?_
      exact k
def w_X11_readAll_65 (SL : Nat) (xs : Nat → Int32) (d : Nat) (p s q : Nat) (Q : Option Value → mm_H → Prop) (v1 : Int32) (I : Nat → Nat → Int32) (J : Nat → Nat → Int64) : Prop := mm_w SL xs (mm_s SL xs (d + 7)) mm_am kX11_readAll 0 0 none Q 65 [some (.ref 65), some (.int v1)] [] (hp p s q I J) 0 0
def w_X11_readAll_88 (SL : Nat) (xs : Nat → Int32) (d : Nat) (p s q : Nat) (Q : Option Value → mm_H → Prop) (v1 : Int32) (I : Nat → Nat → Int32) (J : Nat → Nat → Int64) : Prop := mm_w SL xs (mm_s SL xs (d + 7)) mm_am kX11_readAll 0 0 none Q 88 [some (.ref 65), some (.int v1)] [] (hp p s q I J) 0 0
theorem sg_X11_readAll {SL : Nat} {xs : Nat → Int32} {d : Nat} {p s q : Nat} {Q : Option Value → mm_H → Prop}  {I : Nat → Nat → Int32} {J : Nat → Nat → Int64}  (k : w_X11_readAll_65 SL xs d p s q Q (Int32.ofInt 0) (mm_u (mm_u (mm_u (mm_u (mm_u (mm_u (mm_u (mm_u (mm_u (mm_u (mm_u (mm_u I 65 5 (I 65 1)) 65 1 (Int32.ofInt 0)) 65 4 (Int32.ofInt 0)) 65 2 (Int32.ofInt 0)) 65 3 (Int32.ofInt (-1))) 65 18 (Int32.ofInt 0)) 65 19 (Int32.ofInt 0)) 65 37 (Int32.ofInt 0)) 65 38 (Int32.ofInt 0)) 65 39 (Int32.ofInt 0)) 65 40 (Int32.ofInt 0)) 65 41 (Int32.ofInt 0)) J) : mm_s SL xs (d + 8) 198 [.ref 65] (hp p s q I J) Q := by
  refine e_X11_readAll rfl ?_
  refine sp_aload_n 1 rfl rfl rfl ?_
  refine sp_aload_n 2 rfl rfl rfl ?_
  refine hq_getI 5 rfl rfl rfl ?_
  refine hq_putI 8 rfl rfl rfl ?_
  refine sp_aload_n 9 rfl rfl rfl ?_
  refine sp_iconst 10 rfl rfl ?_
  refine hq_putI 13 rfl rfl rfl ?_
  refine sp_aload_n 14 rfl rfl rfl ?_
  refine sp_iconst 15 rfl rfl ?_
  refine hq_putI 18 rfl rfl rfl ?_
  refine sp_aload_n 19 rfl rfl rfl ?_
  refine sp_iconst 20 rfl rfl ?_
  refine hq_putI 23 rfl rfl rfl ?_
  refine sp_aload_n 24 rfl rfl rfl ?_
  refine sp_iconst 25 rfl rfl ?_
  refine hq_putI 28 rfl rfl rfl ?_
  refine sp_aload_n 29 rfl rfl rfl ?_
  refine sp_iconst 30 rfl rfl ?_
  refine hq_putI 33 rfl rfl rfl ?_
  refine sp_aload_n 34 rfl rfl rfl ?_
  refine sp_iconst 35 rfl rfl ?_
  refine hq_putI 38 rfl rfl rfl ?_
  refine sp_aload_n 39 rfl rfl rfl ?_
  refine sp_iconst 40 rfl rfl ?_
  refine hq_putI 43 rfl rfl rfl ?_
  refine sp_aload_n 44 rfl rfl rfl ?_
  refine sp_iconst 45 rfl rfl ?_
  refine hq_putI 48 rfl rfl rfl ?_
  refine sp_aload_n 49 rfl rfl rfl ?_
  refine sp_iconst 50 rfl rfl ?_
  refine hq_putI 53 rfl rfl rfl ?_
  refine sp_aload_n 54 rfl rfl rfl ?_
  refine sp_iconst 55 rfl rfl ?_
  refine hq_putI 58 rfl rfl rfl ?_
  refine sp_aload_n 59 rfl rfl rfl ?_
  refine sp_iconst 60 rfl rfl ?_
  refine hq_putI 63 rfl rfl rfl ?_
  refine sp_iconst 64 rfl rfl ?_
  refine sp_istore_n 65 rfl rfl rfl ?_
  exact k
theorem sg_X11_readAll_65 {SL : Nat} {xs : Nat → Int32} {d : Nat} {p s q : Nat} {Q : Option Value → mm_H → Prop} {v1 : Int32} {I : Nat → Nat → Int32} {J : Nat → Nat → Int64}  (k : (((Int32.ofInt 8) ≤ v1 → (mm_s SL xs (d + 7) 172 [.ref 65] (hp p s q I J) (fun r_ h_ => ∃ I1 J1, r_ = none ∧ h_ = hp p s q I1 J1 ∧ w_X11_readAll_88 SL xs d p s q Q v1 I1 J1))) ∧ (¬ ((Int32.ofInt 8) ≤ v1) → (vp_in v1 8 ∧ w_X11_readAll_65 SL xs d p s q Q (v1 + Int32.ofInt 1) (mm_u I 85 ((v1).toNatClampNeg) (Int32.ofInt 0)) J)))) : w_X11_readAll_65 SL xs d p s q Q v1 I J := by
  unfold w_X11_readAll_65
  refine sp_iload_n 66 rfl rfl rfl ?_
  refine sp_bipush 68 rfl rfl ?_
  refine sp_I (y := Int32.ofInt 8) rfl ?_
  refine sp_ic_ge 71 rfl rfl (fun q => ?_) (fun q => ?_)
  · have k := k.1 q
    refine sp_aload_n 85 rfl rfl rfl ?_
    refine sc_V 88 rfl rfl rfl rfl rfl (Nat.le_refl _) (Nat.le_refl _) rfl ?_
    refine mm_s_mono _ _ _ _ _ _ ?_ k
    rintro r_ h_ ⟨I1, J1, rfl, rfl, k⟩
    exact k
  · have k := k.2 q
    refine sp_aload_n 72 rfl rfl rfl ?_
    refine hq_getR 75 rfl rfl rfl rfl ?_
    refine sp_iload_n 76 rfl rfl rfl ?_
    refine sp_iconst 77 rfl rfl ?_
    have n1_ := k.1
    have k := k.2
    refine hq_zast 78 rfl rfl n1_ (by decide) rfl ?_
    refine sp_iinc 81 rfl rfl rfl rfl ?_
    refine sp_goto rfl ?_
    exact k
theorem sg_X11_readAll_88 {SL : Nat} {xs : Nat → Int32} {d : Nat} {p s q : Nat} {Q : Option Value → mm_H → Prop} {v1 : Int32} {I : Nat → Nat → Int32} {J : Nat → Nat → Int64}  (k : (((I 65 2) = Int32.ofInt 0 → (((I 65 6) = Int32.ofInt 0 → Q none (hp p s q I J)) ∧ (¬ ((I 65 6) = Int32.ofInt 0) → (mm_s SL xs (d + 7) 197 [.ref 65] (hp p s q I J) (fun r_ h_ => ∃ I1 J1, r_ = none ∧ h_ = hp p s q I1 J1 ∧ w_X11_readAll_88 SL xs d p s q Q v1 I1 J1))))) ∧ (¬ ((I 65 2) = Int32.ofInt 0) → Q none (hp p s q I J)))) : w_X11_readAll_88 SL xs d p s q Q v1 I J := by
  unfold w_X11_readAll_88
  refine sp_aload_n 89 rfl rfl rfl ?_
  refine hq_getI 92 rfl rfl rfl ?_
  refine sp_if_ne 95 rfl rfl (fun q => ?_) (fun q => ?_)
  · have k := k.2 q
    exact st_vret rfl rfl (Nat.le_refl _) (Nat.le_refl _) k
  · have k := k.1 q
    refine sp_aload_n 96 rfl rfl rfl ?_
    refine hq_getI 99 rfl rfl rfl ?_
    refine sp_if_eq 102 rfl rfl (fun q => ?_) (fun q => ?_)
    · have k := k.1 q
      exact st_vret rfl rfl (Nat.le_refl _) (Nat.le_refl _) k
    · have k := k.2 q
      refine sp_aload_n 103 rfl rfl rfl ?_
      refine sc_V 106 rfl rfl rfl rfl rfl (Nat.le_refl _) (Nat.le_refl _) rfl ?_
      refine mm_s_mono _ _ _ _ _ _ ?_ k
      rintro r_ h_ ⟨I1, J1, rfl, rfl, k⟩
      refine sp_goto rfl ?_
      exact k
def w_X11_ring_36 (SL : Nat) (xs : Nat → Int32) (d : Nat) (p s q : Nat) (Q : Option Value → mm_H → Prop)  (I : Nat → Nat → Int32) (J : Nat → Nat → Int64) : Prop := mm_w SL xs (mm_s SL xs (d + 8)) mm_am kX11_ring 0 0 (some .int) Q 36 [some (.ref 65), none] [] (hp p s q I J) 0 0
def w_X11_ring_64 (SL : Nat) (xs : Nat → Int32) (d : Nat) (p s q : Nat) (Q : Option Value → mm_H → Prop)  (I : Nat → Nat → Int32) (J : Nat → Nat → Int64) : Prop := mm_w SL xs (mm_s SL xs (d + 8)) mm_am kX11_ring 0 0 (some .int) Q 64 [some (.ref 65), none] [] (hp p s q I J) 0 0
def w_X11_ring_87 (SL : Nat) (xs : Nat → Int32) (d : Nat) (p s q : Nat) (Q : Option Value → mm_H → Prop)  (I : Nat → Nat → Int32) (J : Nat → Nat → Int64) : Prop := mm_w SL xs (mm_s SL xs (d + 8)) mm_am kX11_ring 0 0 (some .int) Q 87 [some (.ref 65), none] [] (hp p s q I J) 0 0
def w_X11_ring_110 (SL : Nat) (xs : Nat → Int32) (d : Nat) (p s q : Nat) (Q : Option Value → mm_H → Prop)  (I : Nat → Nat → Int32) (J : Nat → Nat → Int64) : Prop := mm_w SL xs (mm_s SL xs (d + 8)) mm_am kX11_ring 0 0 (some .int) Q 110 [some (.ref 65), none] [] (hp p s q I J) 0 0
def w_X11_ring_133 (SL : Nat) (xs : Nat → Int32) (d : Nat) (p s q : Nat) (Q : Option Value → mm_H → Prop)  (I : Nat → Nat → Int32) (J : Nat → Nat → Int64) : Prop := mm_w SL xs (mm_s SL xs (d + 8)) mm_am kX11_ring 0 0 (some .int) Q 133 [some (.ref 65), none] [] (hp p s q I J) 0 0
def w_X11_ring_161 (SL : Nat) (xs : Nat → Int32) (d : Nat) (p s q : Nat) (Q : Option Value → mm_H → Prop)  (I : Nat → Nat → Int32) (J : Nat → Nat → Int64) : Prop := mm_w SL xs (mm_s SL xs (d + 8)) mm_am kX11_ring 0 0 (some .int) Q 161 [some (.ref 65), none] [] (hp p s q I J) 0 0
def w_X11_ring_182 (SL : Nat) (xs : Nat → Int32) (d : Nat) (p s q : Nat) (Q : Option Value → mm_H → Prop) (v1 : Int32) (I : Nat → Nat → Int32) (J : Nat → Nat → Int64) : Prop := mm_w SL xs (mm_s SL xs (d + 8)) mm_am kX11_ring 0 0 (some .int) Q 182 [some (.ref 65), some (.int v1)] [] (hp p s q I J) 0 0
def w_X11_ring_270 (SL : Nat) (xs : Nat → Int32) (d : Nat) (p s q : Nat) (Q : Option Value → mm_H → Prop) (v1 : Int32) (I : Nat → Nat → Int32) (J : Nat → Nat → Int64) : Prop := mm_w SL xs (mm_s SL xs (d + 8)) mm_am kX11_ring 0 0 (some .int) Q 270 [some (.ref 65), some (.int v1)] [] (hp p s q I J) 0 0
def w_X11_ring_310 (SL : Nat) (xs : Nat → Int32) (d : Nat) (p s q : Nat) (Q : Option Value → mm_H → Prop) (v1 : Int32) (I : Nat → Nat → Int32) (J : Nat → Nat → Int64) : Prop := mm_w SL xs (mm_s SL xs (d + 8)) mm_am kX11_ring 0 0 (some .int) Q 310 [some (.ref 65), some (.int v1)] [] (hp p s q I J) 0 0
def w_X11_ring_338 (SL : Nat) (xs : Nat → Int32) (d : Nat) (p s q : Nat) (Q : Option Value → mm_H → Prop) (v1 : Int32) (I : Nat → Nat → Int32) (J : Nat → Nat → Int64) : Prop := mm_w SL xs (mm_s SL xs (d + 8)) mm_am kX11_ring 0 0 (some .int) Q 338 [some (.ref 65), some (.int v1)] [] (hp p s q I J) 0 0
def w_X11_ring_396 (SL : Nat) (xs : Nat → Int32) (d : Nat) (p s q : Nat) (Q : Option Value → mm_H → Prop) (v1 : Int32) (I : Nat → Nat → Int32) (J : Nat → Nat → Int64) : Prop := mm_w SL xs (mm_s SL xs (d + 8)) mm_am kX11_ring 0 0 (some .int) Q 396 [some (.ref 65), some (.int v1)] [] (hp p s q I J) 0 0
theorem sg_X11_ring {SL : Nat} {xs : Nat → Int32} {d : Nat} {p s q : Nat} {Q : Option Value → mm_H → Prop}  {I : Nat → Nat → Int32} {J : Nat → Nat → Int64}  (k : (mm_s SL xs (d + 8) 198 [.ref 65] (hp p s q I J) (fun r_ h_ => ∃ I1 J1, r_ = none ∧ h_ = hp p s q I1 J1 ∧ (((I1 65 2) ≤ Int32.ofInt 0 → (vp_in (Int32.ofInt 0) 8 ∧ (((I1 85 (((Int32.ofInt 0)).toNatClampNeg)) = Int32.ofInt 0 → w_X11_ring_36 SL xs d p s q Q  (mm_u I1 65 47 (Int32.ofInt 1)) J1) ∧ (¬ ((I1 85 (((Int32.ofInt 0)).toNatClampNeg)) = Int32.ofInt 0) → (vp_in (Int32.ofInt 0) 6 ∧ w_X11_ring_36 SL xs d p s q Q  (mm_u I1 65 47 (I1 74 (((Int32.ofInt 0)).toNatClampNeg))) J1))))) ∧ (¬ ((I1 65 2) ≤ Int32.ofInt 0) → Q (some (.int (Int32.ofInt (-1)))) (hp p s q I1 J1)))))) : mm_s SL xs (d + 9) 199 [.ref 65] (hp p s q I J) Q := by
  refine e_X11_ring rfl ?_
  refine sp_aload_n 1 rfl rfl rfl ?_
  refine sc_V 4 rfl rfl rfl rfl rfl (Nat.le_refl _) (Nat.le_refl _) rfl ?_
  refine mm_s_mono _ _ _ _ _ _ ?_ k
  rintro r_ h_ ⟨I1, J1, rfl, rfl, k⟩
  refine sp_aload_n 5 rfl rfl rfl ?_
  refine hq_getI 8 rfl rfl rfl ?_
  refine sp_if_le 11 rfl rfl (fun q => ?_) (fun q => ?_)
  · have k := k.1 q
    refine sp_aload_n 14 rfl rfl rfl ?_
    refine sp_aload_n 15 rfl rfl rfl ?_
    refine hq_getR 18 rfl rfl rfl rfl ?_
    refine sp_iconst 19 rfl rfl ?_
    have n1_ := k.1
    have k := k.2
    refine hq_zald 20 rfl rfl n1_ rfl ?_
    refine sp_if_eq 23 rfl rfl (fun q => ?_) (fun q => ?_)
    · have k := k.1 q
      refine sp_iconst 33 rfl rfl ?_
      refine hq_putI 36 rfl rfl rfl ?_
      exact k
    · have k := k.2 q
      refine sp_aload_n 24 rfl rfl rfl ?_
      refine hq_getR 27 rfl rfl rfl rfl ?_
      refine sp_iconst 28 rfl rfl ?_
      have n2_ := k.1
      have k := k.2
      refine hq_iald 29 rfl rfl n2_ rfl ?_
      refine sp_goto rfl ?_
      refine hq_putI 36 rfl rfl rfl ?_
      exact k
  · have k := k.2 q
    refine sp_iconst 12 rfl rfl ?_
    exact st_iret rfl rfl (Nat.le_refl _) (Nat.le_refl _) k
theorem sg_X11_ring_36 {SL : Nat} {xs : Nat → Int32} {d : Nat} {p s q : Nat} {Q : Option Value → mm_H → Prop}  {I : Nat → Nat → Int32} {J : Nat → Nat → Int64}  (k : (vp_in (Int32.ofInt 1) 8 ∧ (((I 85 (((Int32.ofInt 1)).toNatClampNeg)) = Int32.ofInt 0 → w_X11_ring_64 SL xs d p s q Q  (mm_u I 65 48 (Int32.ofInt 0)) J) ∧ (¬ ((I 85 (((Int32.ofInt 1)).toNatClampNeg)) = Int32.ofInt 0) → (vp_in (Int32.ofInt 1) 6 ∧ (¬ (I 65 47) = 0 ∧ w_X11_ring_64 SL xs d p s q Q  (mm_u I 65 48 ((I 74 (((Int32.ofInt 1)).toNatClampNeg)) - (I 74 (((Int32.ofInt 1)).toNatClampNeg)) / (I 65 47) * (I 65 47))) J)))))) : w_X11_ring_36 SL xs d p s q Q  I J := by
  unfold w_X11_ring_36
  refine sp_aload_n 37 rfl rfl rfl ?_
  refine sp_aload_n 38 rfl rfl rfl ?_
  refine hq_getR 41 rfl rfl rfl rfl ?_
  refine sp_iconst 42 rfl rfl ?_
  have n3_ := k.1
  have k := k.2
  refine hq_zald 43 rfl rfl n3_ rfl ?_
  refine sp_if_eq 46 rfl rfl (fun q => ?_) (fun q => ?_)
  · have k := k.1 q
    refine sp_iconst 61 rfl rfl ?_
    refine hq_putI 64 rfl rfl rfl ?_
    exact k
  · have k := k.2 q
    refine sp_aload_n 47 rfl rfl rfl ?_
    refine hq_getR 50 rfl rfl rfl rfl ?_
    refine sp_iconst 51 rfl rfl ?_
    have n4_ := k.1
    have k := k.2
    refine hq_iald 52 rfl rfl n4_ rfl ?_
    refine sp_aload_n 53 rfl rfl rfl ?_
    refine hq_getI 56 rfl rfl rfl ?_
    have n5_ := k.1
    have k := k.2
    refine sp_irem 57 rfl n5_ rfl ?_
    refine sp_goto rfl ?_
    refine hq_putI 64 rfl rfl rfl ?_
    exact k
theorem sg_X11_ring_64 {SL : Nat} {xs : Nat → Int32} {d : Nat} {p s q : Nat} {Q : Option Value → mm_H → Prop}  {I : Nat → Nat → Int32} {J : Nat → Nat → Int64}  (k : (vp_in (Int32.ofInt 2) 8 ∧ (((I 85 (((Int32.ofInt 2)).toNatClampNeg)) = Int32.ofInt 0 → w_X11_ring_87 SL xs d p s q Q  (mm_u I 65 49 (Int32.ofInt 1)) J) ∧ (¬ ((I 85 (((Int32.ofInt 2)).toNatClampNeg)) = Int32.ofInt 0) → (vp_in (Int32.ofInt 2) 6 ∧ w_X11_ring_87 SL xs d p s q Q  (mm_u I 65 49 (I 74 (((Int32.ofInt 2)).toNatClampNeg))) J))))) : w_X11_ring_64 SL xs d p s q Q  I J := by
  unfold w_X11_ring_64
  refine sp_aload_n 65 rfl rfl rfl ?_
  refine sp_aload_n 66 rfl rfl rfl ?_
  refine hq_getR 69 rfl rfl rfl rfl ?_
  refine sp_iconst 70 rfl rfl ?_
  have n6_ := k.1
  have k := k.2
  refine hq_zald 71 rfl rfl n6_ rfl ?_
  refine sp_if_eq 74 rfl rfl (fun q => ?_) (fun q => ?_)
  · have k := k.1 q
    refine sp_iconst 84 rfl rfl ?_
    refine hq_putI 87 rfl rfl rfl ?_
    exact k
  · have k := k.2 q
    refine sp_aload_n 75 rfl rfl rfl ?_
    refine hq_getR 78 rfl rfl rfl rfl ?_
    refine sp_iconst 79 rfl rfl ?_
    have n7_ := k.1
    have k := k.2
    refine hq_iald 80 rfl rfl n7_ rfl ?_
    refine sp_goto rfl ?_
    refine hq_putI 87 rfl rfl rfl ?_
    exact k
theorem sg_X11_ring_87 {SL : Nat} {xs : Nat → Int32} {d : Nat} {p s q : Nat} {Q : Option Value → mm_H → Prop}  {I : Nat → Nat → Int32} {J : Nat → Nat → Int64}  (k : (vp_in (Int32.ofInt 3) 8 ∧ (((I 85 (((Int32.ofInt 3)).toNatClampNeg)) = Int32.ofInt 0 → w_X11_ring_110 SL xs d p s q Q  (mm_u I 65 50 (Int32.ofInt 0)) J) ∧ (¬ ((I 85 (((Int32.ofInt 3)).toNatClampNeg)) = Int32.ofInt 0) → (vp_in (Int32.ofInt 3) 6 ∧ w_X11_ring_110 SL xs d p s q Q  (mm_u I 65 50 (I 74 (((Int32.ofInt 3)).toNatClampNeg))) J))))) : w_X11_ring_87 SL xs d p s q Q  I J := by
  unfold w_X11_ring_87
  refine sp_aload_n 88 rfl rfl rfl ?_
  refine sp_aload_n 89 rfl rfl rfl ?_
  refine hq_getR 92 rfl rfl rfl rfl ?_
  refine sp_iconst 93 rfl rfl ?_
  have n8_ := k.1
  have k := k.2
  refine hq_zald 94 rfl rfl n8_ rfl ?_
  refine sp_if_eq 97 rfl rfl (fun q => ?_) (fun q => ?_)
  · have k := k.1 q
    refine sp_iconst 107 rfl rfl ?_
    refine hq_putI 110 rfl rfl rfl ?_
    exact k
  · have k := k.2 q
    refine sp_aload_n 98 rfl rfl rfl ?_
    refine hq_getR 101 rfl rfl rfl rfl ?_
    refine sp_iconst 102 rfl rfl ?_
    have n9_ := k.1
    have k := k.2
    refine hq_iald 103 rfl rfl n9_ rfl ?_
    refine sp_goto rfl ?_
    refine hq_putI 110 rfl rfl rfl ?_
    exact k
theorem sg_X11_ring_110 {SL : Nat} {xs : Nat → Int32} {d : Nat} {p s q : Nat} {Q : Option Value → mm_H → Prop}  {I : Nat → Nat → Int32} {J : Nat → Nat → Int64}  (k : (vp_in (Int32.ofInt 4) 8 ∧ (((I 85 (((Int32.ofInt 4)).toNatClampNeg)) = Int32.ofInt 0 → w_X11_ring_133 SL xs d p s q Q  (mm_u I 65 51 (Int32.ofInt 0)) J) ∧ (¬ ((I 85 (((Int32.ofInt 4)).toNatClampNeg)) = Int32.ofInt 0) → (vp_in (Int32.ofInt 4) 6 ∧ w_X11_ring_133 SL xs d p s q Q  (mm_u I 65 51 (I 74 (((Int32.ofInt 4)).toNatClampNeg))) J))))) : w_X11_ring_110 SL xs d p s q Q  I J := by
  unfold w_X11_ring_110
  refine sp_aload_n 111 rfl rfl rfl ?_
  refine sp_aload_n 112 rfl rfl rfl ?_
  refine hq_getR 115 rfl rfl rfl rfl ?_
  refine sp_iconst 116 rfl rfl ?_
  have n10_ := k.1
  have k := k.2
  refine hq_zald 117 rfl rfl n10_ rfl ?_
  refine sp_if_eq 120 rfl rfl (fun q => ?_) (fun q => ?_)
  · have k := k.1 q
    refine sp_iconst 130 rfl rfl ?_
    refine hq_putI 133 rfl rfl rfl ?_
    exact k
  · have k := k.2 q
    refine sp_aload_n 121 rfl rfl rfl ?_
    refine hq_getR 124 rfl rfl rfl rfl ?_
    refine sp_iconst 125 rfl rfl ?_
    have n11_ := k.1
    have k := k.2
    refine hq_iald 126 rfl rfl n11_ rfl ?_
    refine sp_goto rfl ?_
    refine hq_putI 133 rfl rfl rfl ?_
    exact k
theorem sg_X11_ring_133 {SL : Nat} {xs : Nat → Int32} {d : Nat} {p s q : Nat} {Q : Option Value → mm_H → Prop}  {I : Nat → Nat → Int32} {J : Nat → Nat → Int64}  (k : (vp_in (Int32.ofInt 5) 8 ∧ (((I 85 (((Int32.ofInt 5)).toNatClampNeg)) = Int32.ofInt 0 → w_X11_ring_161 SL xs d p s q Q  (mm_u I 65 52 (Int32.ofInt (-1))) J) ∧ (¬ ((I 85 (((Int32.ofInt 5)).toNatClampNeg)) = Int32.ofInt 0) → (vp_in (Int32.ofInt 5) 6 ∧ (¬ (I 65 47) = 0 ∧ w_X11_ring_161 SL xs d p s q Q  (mm_u I 65 52 ((I 74 (((Int32.ofInt 5)).toNatClampNeg)) - (I 74 (((Int32.ofInt 5)).toNatClampNeg)) / (I 65 47) * (I 65 47))) J)))))) : w_X11_ring_133 SL xs d p s q Q  I J := by
  unfold w_X11_ring_133
  refine sp_aload_n 134 rfl rfl rfl ?_
  refine sp_aload_n 135 rfl rfl rfl ?_
  refine hq_getR 138 rfl rfl rfl rfl ?_
  refine sp_iconst 139 rfl rfl ?_
  have n12_ := k.1
  have k := k.2
  refine hq_zald 140 rfl rfl n12_ rfl ?_
  refine sp_if_eq 143 rfl rfl (fun q => ?_) (fun q => ?_)
  · have k := k.1 q
    refine sp_iconst 158 rfl rfl ?_
    refine hq_putI 161 rfl rfl rfl ?_
    exact k
  · have k := k.2 q
    refine sp_aload_n 144 rfl rfl rfl ?_
    refine hq_getR 147 rfl rfl rfl rfl ?_
    refine sp_iconst 148 rfl rfl ?_
    have n13_ := k.1
    have k := k.2
    refine hq_iald 149 rfl rfl n13_ rfl ?_
    refine sp_aload_n 150 rfl rfl rfl ?_
    refine hq_getI 153 rfl rfl rfl ?_
    have n14_ := k.1
    have k := k.2
    refine sp_irem 154 rfl n14_ rfl ?_
    refine sp_goto rfl ?_
    refine hq_putI 161 rfl rfl rfl ?_
    exact k
theorem sg_X11_ring_161 {SL : Nat} {xs : Nat → Int32} {d : Nat} {p s q : Nat} {Q : Option Value → mm_H → Prop}  {I : Nat → Nat → Int32} {J : Nat → Nat → Int64}  (k : (vp_in (Int32.ofInt 6) 8 ∧ (((I 85 (((Int32.ofInt 6)).toNatClampNeg)) = 0 ∨ (I 85 (((Int32.ofInt 6)).toNatClampNeg)) = 1) ∧ w_X11_ring_182 SL xs d p s q Q (Int32.ofInt 0) (mm_u (mm_u I 65 53 (I 85 (((Int32.ofInt 6)).toNatClampNeg))) 65 20 (I 65 18)) J))) : w_X11_ring_161 SL xs d p s q Q  I J := by
  unfold w_X11_ring_161
  refine sp_aload_n 162 rfl rfl rfl ?_
  refine sp_aload_n 163 rfl rfl rfl ?_
  refine hq_getR 166 rfl rfl rfl rfl ?_
  refine sp_bipush 168 rfl rfl ?_
  refine sp_I (y := Int32.ofInt 6) rfl ?_
  have n15_ := k.1
  have k := k.2
  refine hq_zald 169 rfl rfl n15_ rfl ?_
  refine hq_putZ 172 rfl rfl k.1 rfl ?_
  have k := k.2
  refine sp_aload_n 173 rfl rfl rfl ?_
  refine sp_aload_n 174 rfl rfl rfl ?_
  refine hq_getI 177 rfl rfl rfl ?_
  refine sp_I (y := (I 65 18)) (by simp [mm_u]) ?_
  refine hq_putI 180 rfl rfl rfl ?_
  refine sp_iconst 181 rfl rfl ?_
  refine sp_istore_n 182 rfl rfl rfl ?_
  exact k
theorem sg_X11_ring_182 {SL : Nat} {xs : Nat → Int32} {d : Nat} {p s q : Nat} {Q : Option Value → mm_H → Prop} {v1 : Int32} {I : Nat → Nat → Int32} {J : Nat → Nat → Int64}  (k : (((I 65 20) ≤ v1 → w_X11_ring_270 SL xs d p s q Q (Int32.ofInt 0) (mm_u (mm_u (mm_u (mm_u (mm_u (mm_u I 65 42 (I 65 37)) 65 43 (I 65 38)) 65 44 (I 65 39)) 65 45 (I 65 40)) 65 46 (I 65 41)) 65 21 (I 65 19)) J) ∧ (¬ ((I 65 20) ≤ v1) → (vp_in v1 500 ∧ w_X11_ring_182 SL xs d p s q Q (v1 + Int32.ofInt 1) (mm_u (mm_u I 69 ((v1).toNatClampNeg) (I 67 ((v1).toNatClampNeg))) 70 ((v1).toNatClampNeg) (I 68 ((v1).toNatClampNeg))) J)))) : w_X11_ring_182 SL xs d p s q Q v1 I J := by
  unfold w_X11_ring_182
  refine sp_iload_n 183 rfl rfl rfl ?_
  refine sp_aload_n 184 rfl rfl rfl ?_
  refine hq_getI 187 rfl rfl rfl ?_
  refine sp_ic_ge 190 rfl rfl (fun q => ?_) (fun q => ?_)
  · have k := k.1 q
    refine sp_aload_n 221 rfl rfl rfl ?_
    refine sp_aload_n 222 rfl rfl rfl ?_
    refine hq_getI 225 rfl rfl rfl ?_
    refine hq_putI 228 rfl rfl rfl ?_
    refine sp_aload_n 229 rfl rfl rfl ?_
    refine sp_aload_n 230 rfl rfl rfl ?_
    refine hq_getI 233 rfl rfl rfl ?_
    refine sp_I (y := (I 65 38)) (by simp [mm_u]) ?_
    refine hq_putI 236 rfl rfl rfl ?_
    refine sp_aload_n 237 rfl rfl rfl ?_
    refine sp_aload_n 238 rfl rfl rfl ?_
    refine hq_getI 241 rfl rfl rfl ?_
    refine sp_I (y := (I 65 39)) (by simp [mm_u]) ?_
    refine hq_putI 244 rfl rfl rfl ?_
    refine sp_aload_n 245 rfl rfl rfl ?_
    refine sp_aload_n 246 rfl rfl rfl ?_
    refine hq_getI 249 rfl rfl rfl ?_
    refine sp_I (y := (I 65 40)) (by simp [mm_u]) ?_
    refine hq_putI 252 rfl rfl rfl ?_
    refine sp_aload_n 253 rfl rfl rfl ?_
    refine sp_aload_n 254 rfl rfl rfl ?_
    refine hq_getI 257 rfl rfl rfl ?_
    refine sp_I (y := (I 65 41)) (by simp [mm_u]) ?_
    refine hq_putI 260 rfl rfl rfl ?_
    refine sp_aload_n 261 rfl rfl rfl ?_
    refine sp_aload_n 262 rfl rfl rfl ?_
    refine hq_getI 265 rfl rfl rfl ?_
    refine sp_I (y := (I 65 19)) (by simp [mm_u]) ?_
    refine hq_putI 268 rfl rfl rfl ?_
    refine sp_iconst 269 rfl rfl ?_
    refine sp_istore_n 270 rfl rfl rfl ?_
    exact k
  · have k := k.2 q
    refine sp_aload_n 191 rfl rfl rfl ?_
    refine hq_getR 194 rfl rfl rfl rfl ?_
    refine sp_iload_n 195 rfl rfl rfl ?_
    refine sp_aload_n 196 rfl rfl rfl ?_
    refine hq_getR 199 rfl rfl rfl rfl ?_
    refine sp_iload_n 200 rfl rfl rfl ?_
    have n16_ := k.1
    have k := k.2
    refine hq_iald 201 rfl rfl n16_ rfl ?_
    refine hq_iast 202 rfl rfl n16_ rfl ?_
    refine sp_aload_n 203 rfl rfl rfl ?_
    refine hq_getR 206 rfl rfl rfl rfl ?_
    refine sp_iload_n 207 rfl rfl rfl ?_
    refine sp_aload_n 208 rfl rfl rfl ?_
    refine hq_getR 211 rfl rfl rfl rfl ?_
    refine sp_iload_n 212 rfl rfl rfl ?_
    refine hq_iald 213 rfl rfl n16_ rfl ?_
    refine sp_I (y := (I 68 ((v1).toNatClampNeg))) (by simp [mm_u]) ?_
    refine hq_iast 214 rfl rfl n16_ rfl ?_
    refine sp_iinc 217 rfl rfl rfl rfl ?_
    refine sp_goto rfl ?_
    exact k
theorem sg_X11_ring_270 {SL : Nat} {xs : Nat → Int32} {d : Nat} {p s q : Nat} {Q : Option Value → mm_H → Prop} {v1 : Int32} {I : Nat → Nat → Int32} {J : Nat → Nat → Int64}  (k : (((I 65 42) ≤ v1 → w_X11_ring_310 SL xs d p s q Q (Int32.ofInt 0) I J) ∧ (¬ ((I 65 42) ≤ v1) → (vp_in v1 8 ∧ w_X11_ring_270 SL xs d p s q Q (v1 + Int32.ofInt 1) (mm_u (mm_u I 80 ((v1).toNatClampNeg) (I 75 ((v1).toNatClampNeg))) 81 ((v1).toNatClampNeg) (I 76 ((v1).toNatClampNeg))) J)))) : w_X11_ring_270 SL xs d p s q Q v1 I J := by
  unfold w_X11_ring_270
  refine sp_iload_n 271 rfl rfl rfl ?_
  refine sp_aload_n 272 rfl rfl rfl ?_
  refine hq_getI 275 rfl rfl rfl ?_
  refine sp_ic_ge 278 rfl rfl (fun q => ?_) (fun q => ?_)
  · have k := k.1 q
    refine sp_iconst 309 rfl rfl ?_
    refine sp_istore_n 310 rfl rfl rfl ?_
    exact k
  · have k := k.2 q
    refine sp_aload_n 279 rfl rfl rfl ?_
    refine hq_getR 282 rfl rfl rfl rfl ?_
    refine sp_iload_n 283 rfl rfl rfl ?_
    refine sp_aload_n 284 rfl rfl rfl ?_
    refine hq_getR 287 rfl rfl rfl rfl ?_
    refine sp_iload_n 288 rfl rfl rfl ?_
    have n17_ := k.1
    have k := k.2
    refine hq_iald 289 rfl rfl n17_ rfl ?_
    refine hq_iast 290 rfl rfl n17_ rfl ?_
    refine sp_aload_n 291 rfl rfl rfl ?_
    refine hq_getR 294 rfl rfl rfl rfl ?_
    refine sp_iload_n 295 rfl rfl rfl ?_
    refine sp_aload_n 296 rfl rfl rfl ?_
    refine hq_getR 299 rfl rfl rfl rfl ?_
    refine sp_iload_n 300 rfl rfl rfl ?_
    refine hq_iald 301 rfl rfl n17_ rfl ?_
    refine sp_I (y := (I 76 ((v1).toNatClampNeg))) (by simp [mm_u]) ?_
    refine hq_iast 302 rfl rfl n17_ rfl ?_
    refine sp_iinc 305 rfl rfl rfl rfl ?_
    refine sp_goto rfl ?_
    exact k
theorem sg_X11_ring_310 {SL : Nat} {xs : Nat → Int32} {d : Nat} {p s q : Nat} {Q : Option Value → mm_H → Prop} {v1 : Int32} {I : Nat → Nat → Int32} {J : Nat → Nat → Int64}  (k : (((I 65 43) ≤ v1 → w_X11_ring_338 SL xs d p s q Q (Int32.ofInt 0) I J) ∧ (¬ ((I 65 43) ≤ v1) → (vp_in v1 9 ∧ w_X11_ring_310 SL xs d p s q Q (v1 + Int32.ofInt 1) (mm_u I 82 ((v1).toNatClampNeg) (I 77 ((v1).toNatClampNeg))) J)))) : w_X11_ring_310 SL xs d p s q Q v1 I J := by
  unfold w_X11_ring_310
  refine sp_iload_n 311 rfl rfl rfl ?_
  refine sp_aload_n 312 rfl rfl rfl ?_
  refine hq_getI 315 rfl rfl rfl ?_
  refine sp_ic_ge 318 rfl rfl (fun q => ?_) (fun q => ?_)
  · have k := k.1 q
    refine sp_iconst 337 rfl rfl ?_
    refine sp_istore_n 338 rfl rfl rfl ?_
    exact k
  · have k := k.2 q
    refine sp_aload_n 319 rfl rfl rfl ?_
    refine hq_getR 322 rfl rfl rfl rfl ?_
    refine sp_iload_n 323 rfl rfl rfl ?_
    refine sp_aload_n 324 rfl rfl rfl ?_
    refine hq_getR 327 rfl rfl rfl rfl ?_
    refine sp_iload_n 328 rfl rfl rfl ?_
    have n18_ := k.1
    have k := k.2
    refine hq_iald 329 rfl rfl n18_ rfl ?_
    refine hq_iast 330 rfl rfl n18_ rfl ?_
    refine sp_iinc 333 rfl rfl rfl rfl ?_
    refine sp_goto rfl ?_
    exact k
theorem sg_X11_ring_338 {SL : Nat} {xs : Nat → Int32} {d : Nat} {p s q : Nat} {Q : Option Value → mm_H → Prop} {v1 : Int32} {I : Nat → Nat → Int32} {J : Nat → Nat → Int64}  (k : (((I 65 44) ≤ v1 → (mm_s SL xs (d + 8) 202 [.ref 65, .int (I 65 48)] (hp p s q I J) (fun r_ h_ => ∃ I1 J1, r_ = none ∧ h_ = hp p s q I1 J1 ∧ w_X11_ring_396 SL xs d p s q Q (Int32.ofInt 0) (mm_u (mm_u I1 65 88 (Int32.ofInt 0)) 65 80 (Int32.ofInt 0)) J1))) ∧ (¬ ((I 65 44) ≤ v1) → (vp_in v1 12 ∧ w_X11_ring_338 SL xs d p s q Q (v1 + Int32.ofInt 1) (mm_u (mm_u I 83 ((v1).toNatClampNeg) (I 78 ((v1).toNatClampNeg))) 84 ((v1).toNatClampNeg) (I 79 ((v1).toNatClampNeg))) J)))) : w_X11_ring_338 SL xs d p s q Q v1 I J := by
  unfold w_X11_ring_338
  refine sp_iload_n 339 rfl rfl rfl ?_
  refine sp_aload_n 340 rfl rfl rfl ?_
  refine hq_getI 343 rfl rfl rfl ?_
  refine sp_ic_ge 346 rfl rfl (fun q => ?_) (fun q => ?_)
  · have k := k.1 q
    refine sp_aload_n 377 rfl rfl rfl ?_
    refine sp_aload_n 378 rfl rfl rfl ?_
    refine hq_getI 381 rfl rfl rfl ?_
    refine sc_V 384 rfl rfl rfl rfl rfl (Nat.le_refl _) (Nat.le_refl _) rfl ?_
    refine mm_s_mono _ _ _ _ _ _ ?_ k
    rintro r_ h_ ⟨I1, J1, rfl, rfl, k⟩
    refine sp_aload_n 385 rfl rfl rfl ?_
    refine sp_iconst 386 rfl rfl ?_
    refine hq_putI 389 rfl rfl rfl ?_
    refine sp_aload_n 390 rfl rfl rfl ?_
    refine sp_iconst 391 rfl rfl ?_
    refine hq_putI 394 rfl rfl rfl ?_
    refine sp_iconst 395 rfl rfl ?_
    refine sp_istore_n 396 rfl rfl rfl ?_
    exact k
  · have k := k.2 q
    refine sp_aload_n 347 rfl rfl rfl ?_
    refine hq_getR 350 rfl rfl rfl rfl ?_
    refine sp_iload_n 351 rfl rfl rfl ?_
    refine sp_aload_n 352 rfl rfl rfl ?_
    refine hq_getR 355 rfl rfl rfl rfl ?_
    refine sp_iload_n 356 rfl rfl rfl ?_
    have n19_ := k.1
    have k := k.2
    refine hq_iald 357 rfl rfl n19_ rfl ?_
    refine hq_iast 358 rfl rfl n19_ rfl ?_
    refine sp_aload_n 359 rfl rfl rfl ?_
    refine hq_getR 362 rfl rfl rfl rfl ?_
    refine sp_iload_n 363 rfl rfl rfl ?_
    refine sp_aload_n 364 rfl rfl rfl ?_
    refine hq_getR 367 rfl rfl rfl rfl ?_
    refine sp_iload_n 368 rfl rfl rfl ?_
    refine hq_iald 369 rfl rfl n19_ rfl ?_
    refine sp_I (y := (I 79 ((v1).toNatClampNeg))) (by simp [mm_u]) ?_
    refine hq_iast 370 rfl rfl n19_ rfl ?_
    refine sp_iinc 373 rfl rfl rfl rfl ?_
    refine sp_goto rfl ?_
    exact k
theorem sg_X11_ring_396 {SL : Nat} {xs : Nat → Int32} {d : Nat} {p s q : Nat} {Q : Option Value → mm_H → Prop} {v1 : Int32} {I : Nat → Nat → Int32} {J : Nat → Nat → Int64}  (k : (((Int32.ofInt 3) ≤ v1 → Q (some (.int (I 65 47))) (hp p s q I J)) ∧ (¬ ((Int32.ofInt 3) ≤ v1) → (vp_in v1 3 ∧ w_X11_ring_396 SL xs d p s q Q (v1 + Int32.ofInt 1) (mm_u I 107 ((v1).toNatClampNeg) (Int32.ofInt 0)) J)))) : w_X11_ring_396 SL xs d p s q Q v1 I J := by
  unfold w_X11_ring_396
  refine sp_iload_n 397 rfl rfl rfl ?_
  refine sp_iconst 398 rfl rfl ?_
  refine sp_ic_ge 401 rfl rfl (fun q => ?_) (fun q => ?_)
  · have k := k.1 q
    refine sp_aload_n 415 rfl rfl rfl ?_
    refine hq_getI 418 rfl rfl rfl ?_
    exact st_iret rfl rfl (Nat.le_refl _) (Nat.le_refl _) k
  · have k := k.2 q
    refine sp_aload_n 402 rfl rfl rfl ?_
    refine hq_getR 405 rfl rfl rfl rfl ?_
    refine sp_iload_n 406 rfl rfl rfl ?_
    refine sp_iconst 407 rfl rfl ?_
    have n20_ := k.1
    have k := k.2
    refine hq_zast 408 rfl rfl n20_ (by decide) rfl ?_
    refine sp_iinc 411 rfl rfl rfl rfl ?_
    refine sp_goto rfl ?_
    exact k
