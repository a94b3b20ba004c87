def w_X9_advance_0 (SL : Nat) (xs : Nat → Int32) (d : Nat) (p s q : Nat) (Q : Option Value → mm_H → Prop)  (I : Nat → Nat → Int32) (J : Nat → Nat → Int64) : Prop := mm_w SL xs (mm_s SL xs (d + 2)) mm_am kX9_advance 0 0 none Q 0 [some (.ref 4), none] [] (hp p s q I J) 0 0
theorem sg_X9_advance_0 {SL : Nat} {xs : Nat → Int32} {d : Nat} {p s q : Nat} {Q : Option Value → mm_H → Prop}  {I : Nat → Nat → Int32} {J : Nat → Nat → Int64}  (k : (((I 4 1) ≤ (I 4 7) → (mm_s SL xs (d + 2) 109 [.ref 4, .int (I 4 7)] (hp p s q (mm_u I 4 3 (I 4 7)) J) (fun r_ h_ => ∃ x1 I1 J1, r_ = some (.int x1) ∧ h_ = hp p s q I1 J1 ∧ (((I1 4 7) < (I1 4 1) → (((sx_X9_isLetter x1) = Int32.ofInt 0 → (((sx_X9_isDigit x1) = Int32.ofInt 0 → (((sy_X9_isSign x1 I1 J1) = Int32.ofInt 0 → Q none (hp p s q (mm_u (mm_u I1 4 2 (Int32.ofInt 1)) 4 7 ((I1 4 7) + (Int32.ofInt 1))) J1)) ∧ (¬ ((sy_X9_isSign x1 I1 J1) = Int32.ofInt 0) → Q none (hp p s q (mm_u (mm_u I1 4 2 x1) 4 7 ((I1 4 7) + (Int32.ofInt 1))) J1)))) ∧ (¬ ((sx_X9_isDigit x1) = Int32.ofInt 0) → (mm_s SL xs (d + 2) 107 [.ref 4] (hp p s q I1 J1) (fun r_ h_ => ∃ I2 J2, r_ = none ∧ h_ = hp p s q I2 J2 ∧ Q none (hp p s q I2 J2)))))) ∧ (¬ ((sx_X9_isLetter x1) = Int32.ofInt 0) → (mm_s SL xs (d + 2) 106 [.ref 4] (hp p s q I1 J1) (fun r_ h_ => ∃ I3 J3, r_ = none ∧ h_ = hp p s q I3 J3 ∧ Q none (hp p s q I3 J3)))))) ∧ (¬ ((I1 4 7) < (I1 4 1)) → Q none (hp p s q (mm_u I1 4 2 (Int32.ofInt 0)) J1)))))) ∧ (¬ ((I 4 1) ≤ (I 4 7)) → (mm_s SL xs (d + 2) 109 [.ref 4, .int (I 4 7)] (hp p s q I J) (fun r_ h_ => ∃ x4 I4 J4, r_ = some (.int x4) ∧ h_ = hp p s q I4 J4 ∧ (((sx_X9_isBlank x4) = Int32.ofInt 0 → (mm_s SL xs (d + 2) 109 [.ref 4, .int (I4 4 7)] (hp p s q (mm_u I4 4 3 (I4 4 7)) J4) (fun r_ h_ => ∃ x5 I5 J5, r_ = some (.int x5) ∧ h_ = hp p s q I5 J5 ∧ (((I5 4 7) < (I5 4 1) → (((sx_X9_isLetter x5) = Int32.ofInt 0 → (((sx_X9_isDigit x5) = Int32.ofInt 0 → (((sy_X9_isSign x5 I5 J5) = Int32.ofInt 0 → Q none (hp p s q (mm_u (mm_u I5 4 2 (Int32.ofInt 1)) 4 7 ((I5 4 7) + (Int32.ofInt 1))) J5)) ∧ (¬ ((sy_X9_isSign x5 I5 J5) = Int32.ofInt 0) → Q none (hp p s q (mm_u (mm_u I5 4 2 x5) 4 7 ((I5 4 7) + (Int32.ofInt 1))) J5)))) ∧ (¬ ((sx_X9_isDigit x5) = Int32.ofInt 0) → (mm_s SL xs (d + 2) 107 [.ref 4] (hp p s q I5 J5) (fun r_ h_ => ∃ I6 J6, r_ = none ∧ h_ = hp p s q I6 J6 ∧ Q none (hp p s q I6 J6)))))) ∧ (¬ ((sx_X9_isLetter x5) = Int32.ofInt 0) → (mm_s SL xs (d + 2) 106 [.ref 4] (hp p s q I5 J5) (fun r_ h_ => ∃ I7 J7, r_ = none ∧ h_ = hp p s q I7 J7 ∧ Q none (hp p s q I7 J7)))))) ∧ (¬ ((I5 4 7) < (I5 4 1)) → Q none (hp p s q (mm_u I5 4 2 (Int32.ofInt 0)) J5)))))) ∧ (¬ ((sx_X9_isBlank x4) = Int32.ofInt 0) → w_X9_advance_0 SL xs d p s q Q  (mm_u I4 4 7 ((I4 4 7) + (Int32.ofInt 1))) J4))))))) : w_X9_advance_0 SL xs d p s q Q  I J := by
  unfold w_X9_advance_0
  refine sp_aload_n 1 rfl rfl rfl ?_
  refine hq_getI 4 rfl rfl rfl ?_
  refine sp_aload_n 5 rfl rfl rfl ?_
  refine hq_getI 8 rfl rfl rfl ?_
  refine sp_ic_ge 11 rfl rfl (fun q_ => ?_) (fun q_ => ?_)
  · have k := k.1 q_
    refine sp_aload_n 39 rfl rfl rfl ?_
    refine sp_aload_n 40 rfl rfl rfl ?_
    refine hq_getI 43 rfl rfl rfl ?_
    refine hq_putI 46 rfl rfl rfl ?_
    refine sp_aload_n 47 rfl rfl rfl ?_
    refine sp_aload_n 48 rfl rfl rfl ?_
    refine hq_getI 51 rfl rfl rfl ?_
    refine sp_I (y := (I 4 7)) (by simp [mm_u]) ?_
    refine sc_V 54 rfl rfl rfl rfl rfl (Nat.le_refl _) (Nat.le_refl _) rfl ?_
    refine mm_s_mono _ _ _ _ _ _ ?_ k
    rintro r_ h_ ⟨x1, I1, J1, rfl, rfl, k⟩
    refine hs_S (st2 := [.int x1]) rfl ?_
    refine hs_istore_n 55 (L2 := [some (.ref 4), some (.int x1)]) rfl rfl rfl rfl ?_
    refine sp_aload_n 56 rfl rfl rfl ?_
    refine hq_getI 59 rfl rfl rfl ?_
    refine sp_aload_n 60 rfl rfl rfl ?_
    refine hq_getI 63 rfl rfl rfl ?_
    refine sp_ic_lt 66 rfl rfl (fun q_ => ?_) (fun q_ => ?_)
    · have k := k.1 q_
      refine sp_iload_n 75 rfl rfl rfl ?_
      refine sc_S 78 rfl rfl rfl rfl (Nat.le_refl _) (Nat.le_refl _) rfl ?_
      refine cx_X9_isLetter ?_
      refine hs_S (st2 := [.int (sx_X9_isLetter x1)]) rfl ?_
      refine sp_if_eq 81 rfl rfl (fun q_ => ?_) (fun q_ => ?_)
      · have k := k.1 q_
        refine sp_iload_n 89 rfl rfl rfl ?_
        refine sc_S 92 rfl rfl rfl rfl (Nat.le_refl _) (Nat.le_refl _) rfl ?_
        refine cx_X9_isDigit ?_
        refine hs_S (st2 := [.int (sx_X9_isDigit x1)]) rfl ?_
        refine sp_if_eq 95 rfl rfl (fun q_ => ?_) (fun q_ => ?_)
        · have k := k.1 q_
          refine sp_aload_n 103 rfl rfl rfl ?_
          refine sp_iload_n 104 rfl rfl rfl ?_
          refine sc_S 107 rfl rfl rfl rfl (Nat.le_refl _) (Nat.le_refl _) rfl ?_
          refine cy_X9_isSign ?_
          refine sp_if_eq 110 rfl rfl (fun q_ => ?_) (fun q_ => ?_)
          · have k := k.1 q_
            refine sp_iconst 115 rfl rfl ?_
            refine hq_putI 118 rfl rfl rfl ?_
            refine sp_aload_n 119 rfl rfl rfl ?_
            refine sp_dup 120 rfl rfl rfl ?_
            refine hq_getI 123 rfl rfl rfl ?_
            refine sp_I (y := (I1 4 7)) (by simp [mm_u]) ?_
            refine sp_iconst 124 rfl rfl ?_
            refine sp_iadd 125 rfl rfl ?_
            refine hq_putI 128 rfl rfl rfl ?_
            exact st_vret rfl rfl (Nat.le_refl _) (Nat.le_refl _) k
          · have k := k.2 q_
            refine sp_iload_n 111 rfl rfl rfl ?_
            refine sp_goto rfl ?_
            refine hq_putI 118 rfl rfl rfl ?_
            refine sp_aload_n 119 rfl rfl rfl ?_
            refine sp_dup 120 rfl rfl rfl ?_
            refine hq_getI 123 rfl rfl rfl ?_
            refine sp_I (y := (I1 4 7)) (by simp [mm_u]) ?_
            refine sp_iconst 124 rfl rfl ?_
            refine sp_iadd 125 rfl rfl ?_
            refine hq_putI 128 rfl rfl rfl ?_
            exact st_vret rfl rfl (Nat.le_refl _) (Nat.le_refl _) k
        · have k := k.2 q_
          refine sp_aload_n 96 rfl rfl rfl ?_
          refine sc_V 99 rfl rfl rfl rfl rfl (Nat.le_refl _) (Nat.le_refl _) rfl ?_
          refine mm_s_mono _ _ _ _ _ _ ?_ k
          rintro r_ h_ ⟨I2, J2, rfl, rfl, k⟩
          refine hs_S (st2 := []) rfl ?_
          refine sp_goto rfl ?_
          exact st_vret rfl rfl (Nat.le_refl _) (Nat.le_refl _) k
      · have k := k.2 q_
        refine sp_aload_n 82 rfl rfl rfl ?_
        refine sc_V 85 rfl rfl rfl rfl rfl (Nat.le_refl _) (Nat.le_refl _) rfl ?_
        refine mm_s_mono _ _ _ _ _ _ ?_ k
        rintro r_ h_ ⟨I3, J3, rfl, rfl, k⟩
        refine hs_S (st2 := []) rfl ?_
        refine sp_goto rfl ?_
        exact st_vret rfl rfl (Nat.le_refl _) (Nat.le_refl _) k
    · have k := k.2 q_
      refine sp_aload_n 67 rfl rfl rfl ?_
      refine sp_iconst 68 rfl rfl ?_
      refine hq_putI 71 rfl rfl rfl ?_
      refine sp_goto rfl ?_
      exact st_vret rfl rfl (Nat.le_refl _) (Nat.le_refl _) k
  · have k := k.2 q_
    refine sp_aload_n 12 rfl rfl rfl ?_
    refine sp_aload_n 13 rfl rfl rfl ?_
    refine hq_getI 16 rfl rfl rfl ?_
    refine sc_V 19 rfl rfl rfl rfl rfl (Nat.le_refl _) (Nat.le_refl _) rfl ?_
    refine mm_s_mono _ _ _ _ _ _ ?_ k
    rintro r_ h_ ⟨x4, I4, J4, rfl, rfl, k⟩
    refine hs_S (st2 := [.int x4]) rfl ?_
    refine sc_S 22 rfl rfl rfl rfl (Nat.le_refl _) (Nat.le_refl _) rfl ?_
    refine cx_X9_isBlank ?_
    refine hs_S (st2 := [.int (sx_X9_isBlank x4)]) rfl ?_
    refine sp_if_eq 25 rfl rfl (fun q_ => ?_) (fun q_ => ?_)
    · have k := k.1 q_
      refine sp_aload_n 39 rfl rfl rfl ?_
      refine sp_aload_n 40 rfl rfl rfl ?_
      refine hq_getI 43 rfl rfl rfl ?_
      refine hq_putI 46 rfl rfl rfl ?_
      refine sp_aload_n 47 rfl rfl rfl ?_
      refine sp_aload_n 48 rfl rfl rfl ?_
      refine hq_getI 51 rfl rfl rfl ?_
      refine sp_I (y := (I4 4 7)) (by simp [mm_u]) ?_
      refine sc_V 54 rfl rfl rfl rfl rfl (Nat.le_refl _) (Nat.le_refl _) rfl ?_
      refine mm_s_mono _ _ _ _ _ _ ?_ k
      rintro r_ h_ ⟨x5, I5, J5, rfl, rfl, k⟩
      refine hs_S (st2 := [.int x5]) rfl ?_
      refine hs_istore_n 55 (L2 := [some (.ref 4), some (.int x5)]) rfl rfl rfl rfl ?_
      refine sp_aload_n 56 rfl rfl rfl ?_
      refine hq_getI 59 rfl rfl rfl ?_
      refine sp_aload_n 60 rfl rfl rfl ?_
      refine hq_getI 63 rfl rfl rfl ?_
      refine sp_ic_lt 66 rfl rfl (fun q_ => ?_) (fun q_ => ?_)
      · have k := k.1 q_
        refine sp_iload_n 75 rfl rfl rfl ?_
        refine sc_S 78 rfl rfl rfl rfl (Nat.le_refl _) (Nat.le_refl _) rfl ?_
        refine cx_X9_isLetter ?_
        refine hs_S (st2 := [.int (sx_X9_isLetter x5)]) rfl ?_
        refine sp_if_eq 81 rfl rfl (fun q_ => ?_) (fun q_ => ?_)
        · have k := k.1 q_
          refine sp_iload_n 89 rfl rfl rfl ?_
          refine sc_S 92 rfl rfl rfl rfl (Nat.le_refl _) (Nat.le_refl _) rfl ?_
          refine cx_X9_isDigit ?_
          refine hs_S (st2 := [.int (sx_X9_isDigit x5)]) rfl ?_
          refine sp_if_eq 95 rfl rfl (fun q_ => ?_) (fun q_ => ?_)
          · have k := k.1 q_
            refine sp_aload_n 103 rfl rfl rfl ?_
            refine sp_iload_n 104 rfl rfl rfl ?_
            refine sc_S 107 rfl rfl rfl rfl (Nat.le_refl _) (Nat.le_refl _) rfl ?_
            refine cy_X9_isSign ?_
            refine sp_if_eq 110 rfl rfl (fun q_ => ?_) (fun q_ => ?_)
            · have k := k.1 q_
              refine sp_iconst 115 rfl rfl ?_
              refine hq_putI 118 rfl rfl rfl ?_
              refine sp_aload_n 119 rfl rfl rfl ?_
              refine sp_dup 120 rfl rfl rfl ?_
              refine hq_getI 123 rfl rfl rfl ?_
              refine sp_I (y := (I5 4 7)) (by simp [mm_u]) ?_
              refine sp_iconst 124 rfl rfl ?_
              refine sp_iadd 125 rfl rfl ?_
              refine hq_putI 128 rfl rfl rfl ?_
              exact st_vret rfl rfl (Nat.le_refl _) (Nat.le_refl _) k
            · have k := k.2 q_
              refine sp_iload_n 111 rfl rfl rfl ?_
              refine sp_goto rfl ?_
              refine hq_putI 118 rfl rfl rfl ?_
              refine sp_aload_n 119 rfl rfl rfl ?_
              refine sp_dup 120 rfl rfl rfl ?_
              refine hq_getI 123 rfl rfl rfl ?_
              refine sp_I (y := (I5 4 7)) (by simp [mm_u]) ?_
              refine sp_iconst 124 rfl rfl ?_
              refine sp_iadd 125 rfl rfl ?_
              refine hq_putI 128 rfl rfl rfl ?_
              exact st_vret rfl rfl (Nat.le_refl _) (Nat.le_refl _) k
          · have k := k.2 q_
            refine sp_aload_n 96 rfl rfl rfl ?_
            refine sc_V 99 rfl rfl rfl rfl rfl (Nat.le_refl _) (Nat.le_refl _) rfl ?_
            refine mm_s_mono _ _ _ _ _ _ ?_ k
            rintro r_ h_ ⟨I6, J6, rfl, rfl, k⟩
            refine hs_S (st2 := []) rfl ?_
            refine sp_goto rfl ?_
            exact st_vret rfl rfl (Nat.le_refl _) (Nat.le_refl _) k
        · have k := k.2 q_
          refine sp_aload_n 82 rfl rfl rfl ?_
          refine sc_V 85 rfl rfl rfl rfl rfl (Nat.le_refl _) (Nat.le_refl _) rfl ?_
          refine mm_s_mono _ _ _ _ _ _ ?_ k
          rintro r_ h_ ⟨I7, J7, rfl, rfl, k⟩
          refine hs_S (st2 := []) rfl ?_
          refine sp_goto rfl ?_
          exact st_vret rfl rfl (Nat.le_refl _) (Nat.le_refl _) k
      · have k := k.2 q_
        refine sp_aload_n 67 rfl rfl rfl ?_
        refine sp_iconst 68 rfl rfl ?_
        refine hq_putI 71 rfl rfl rfl ?_
        refine sp_goto rfl ?_
        exact st_vret rfl rfl (Nat.le_refl _) (Nat.le_refl _) k
    · have k := k.2 q_
      refine sp_aload_n 26 rfl rfl rfl ?_
      refine sp_dup 27 rfl rfl rfl ?_
      refine hq_getI 30 rfl rfl rfl ?_
      refine sp_iconst 31 rfl rfl ?_
      refine sp_iadd 32 rfl rfl ?_
      refine hq_putI 35 rfl rfl rfl ?_
      refine sp_goto rfl ?_
      exact k
def w_X2_chosenBy_12 (SL : Nat) (xs : Nat → Int32) (d : Nat) (p s q : Nat) (Q : Option Value → mm_H → Prop) (v1 : Int32) (a1 : Nat) (v3 : Int32) (v4 : Int64) (v6 : Int32) (I : Nat → Nat → Int32) (J : Nat → Nat → Int64) : Prop := mm_w SL xs (mm_s SL xs (d + 3)) mm_am kX2_chosenBy 0 0 (some .int) Q 12 [some (.ref 31), some (.int v1), some (.ref a1), some (.int v3), some (.long v4), none, some (.int v6)] [] (hp p s q I J) 0 0
theorem sg_X2_chosenBy {SL : Nat} {xs : Nat → Int32} {d : Nat} {p s q : Nat} {Q : Option Value → mm_H → Prop} {a0 : Int32} {a1 : Nat} {a2 : Int32} {I : Nat → Nat → Int32} {J : Nat → Nat → Int64}  (k : (mm_s SL xs (d + 3) 28 [.ref 31, .int a0, .ref a1] (hp p s q I J) (fun r_ h_ => ∃ I1 J1, r_ = none ∧ h_ = hp p s q I1 J1 ∧ w_X2_chosenBy_12 SL xs d p s q Q a0 a1 a2 (Int64.ofInt 0) (Int32.ofInt 0) I1 J1))) : mm_s SL xs (d + 4) 31 [.ref 31, .int a0, .ref a1, .int a2] (hp p s q I J) Q := by
  refine e_X2_chosenBy rfl ?_
  refine hs_L (L2 := [some (.ref 31), some (.int a0), some (.ref a1), some (.int a2), none, none, none]) rfl ?_
  refine sp_aload_n 1 rfl rfl rfl ?_
  refine sp_iload_n 2 rfl rfl rfl ?_
  refine sp_aload_n 3 rfl rfl rfl ?_
  refine sc_V 6 rfl rfl rfl rfl rfl (Nat.le_refl _) (Nat.le_refl _) rfl ?_
  refine mm_s_mono _ _ _ _ _ _ ?_ k
  rintro r_ h_ ⟨I1, J1, rfl, rfl, k⟩
  refine hs_S (st2 := []) rfl ?_
  refine sp_lconst 7 rfl rfl ?_
  refine sp_J (y := Int64.ofInt 0) rfl ?_
  refine hs_lstore 9 (L2 := [some (.ref 31), some (.int a0), some (.ref a1), some (.int a2), some (.long (Int64.ofInt 0)), none, none]) rfl rfl rfl rfl ?_
  refine sp_iconst 10 rfl rfl ?_
  refine hs_istore 12 (L2 := [some (.ref 31), some (.int a0), some (.ref a1), some (.int a2), some (.long (Int64.ofInt 0)), none, some (.int (Int32.ofInt 0))]) rfl rfl rfl rfl ?_
  exact k
theorem sg_X2_chosenBy_12 {SL : Nat} {xs : Nat → Int32} {d : Nat} {p s q : Nat} {Q : Option Value → mm_H → Prop} {v1 : Int32} {a1 : Nat} {v3 : Int32} {v4 : Int64} {v6 : Int32} {I : Nat → Nat → Int32} {J : Nat → Nat → Int64}  (k : ((v3 ≤ v6 → (mm_s SL xs (d + 3) 30 [.ref 31, .int v1, .long v4] (hp p s q I J) (fun r_ h_ => ∃ x1 I1 J1, r_ = some (.int x1) ∧ h_ = hp p s q I1 J1 ∧ Q (some (.int x1)) (hp p s q I1 J1)))) ∧ (¬ (v3 ≤ v6) → (((Int32.ofInt 9) ≤ v6 → (mm_s SL xs (d + 3) 30 [.ref 31, .int v1, .long v4] (hp p s q I J) (fun r_ h_ => ∃ x2 I2 J2, r_ = some (.int x2) ∧ h_ = hp p s q I2 J2 ∧ Q (some (.int x2)) (hp p s q I2 J2)))) ∧ (¬ ((Int32.ofInt 9) ≤ v6) → (mm_s SL xs (d + 3) 30 [.ref 31, .int v1, .long v4] (hp p s q I J) (fun r_ h_ => ∃ x3 I3 J3, r_ = some (.int x3) ∧ h_ = hp p s q I3 J3 ∧ w_X2_chosenBy_12 SL xs d p s q Q v1 a1 v3 (v4 ||| (sx_X6_bit x3)) (v6 + Int32.ofInt 1) I3 J3))))))) : w_X2_chosenBy_12 SL xs d p s q Q v1 a1 v3 v4 v6 I J := by
  unfold w_X2_chosenBy_12
  refine sp_iload 14 rfl rfl rfl ?_
  refine sp_iload_n 15 rfl rfl rfl ?_
  refine sp_ic_ge 18 rfl rfl (fun q_ => ?_) (fun q_ => ?_)
  · have k := k.1 q_
    refine sp_aload_n 47 rfl rfl rfl ?_
    refine sp_iload_n 48 rfl rfl rfl ?_
    refine sp_lload 50 rfl rfl rfl ?_
    refine sc_V 53 rfl rfl rfl rfl rfl (Nat.le_refl _) (Nat.le_refl _) rfl ?_
    refine mm_s_mono _ _ _ _ _ _ ?_ k
    rintro r_ h_ ⟨x1, I1, J1, rfl, rfl, k⟩
    refine hs_S (st2 := [.int x1]) rfl ?_
    exact st_iret rfl rfl (Nat.le_refl _) (Nat.le_refl _) k
  · have k := k.2 q_
    refine sp_iload 20 rfl rfl rfl ?_
    refine sp_bipush 22 rfl rfl ?_
    refine sp_I (y := Int32.ofInt 9) rfl ?_
    refine sp_ic_ge 25 rfl rfl (fun q_ => ?_) (fun q_ => ?_)
    · have k := k.1 q_
      refine sp_aload_n 47 rfl rfl rfl ?_
      refine sp_iload_n 48 rfl rfl rfl ?_
      refine sp_lload 50 rfl rfl rfl ?_
      refine sc_V 53 rfl rfl rfl rfl rfl (Nat.le_refl _) (Nat.le_refl _) rfl ?_
      refine mm_s_mono _ _ _ _ _ _ ?_ k
      rintro r_ h_ ⟨x2, I2, J2, rfl, rfl, k⟩
      refine hs_S (st2 := [.int x2]) rfl ?_
      exact st_iret rfl rfl (Nat.le_refl _) (Nat.le_refl _) k
    · have k := k.2 q_
      refine sp_lload 27 rfl rfl rfl ?_
      refine sp_aload_n 28 rfl rfl rfl ?_
      refine sp_iload_n 29 rfl rfl rfl ?_
      refine sp_lload 31 rfl rfl rfl ?_
      refine sc_V 34 rfl rfl rfl rfl rfl (Nat.le_refl _) (Nat.le_refl _) rfl ?_
      refine mm_s_mono _ _ _ _ _ _ ?_ k
      rintro r_ h_ ⟨x3, I3, J3, rfl, rfl, k⟩
      refine hs_S (st2 := [.int x3, .long v4]) rfl ?_
      refine sc_S 37 rfl rfl rfl rfl (Nat.le_refl _) (Nat.le_refl _) rfl ?_
      refine cx_X6_bit ?_
      refine hs_S (st2 := [.long (sx_X6_bit x3), .long v4]) rfl ?_
      refine sp_lor 38 rfl rfl ?_
      refine hs_lstore 40 (L2 := [some (.ref 31), some (.int v1), some (.ref a1), some (.int v3), some (.long (v4 ||| (sx_X6_bit x3))), none, some (.int v6)]) rfl rfl rfl rfl ?_
      refine hs_iinc 43 (L2 := [some (.ref 31), some (.int v1), some (.ref a1), some (.int v3), some (.long (v4 ||| (sx_X6_bit x3))), none, some (.int (v6 + Int32.ofInt 1))]) rfl rfl rfl rfl rfl ?_
      refine sp_goto rfl ?_
      exact k
def w_X3_leastNumber_28 (SL : Nat) (xs : Nat → Int32) (d : Nat) (p s q : Nat) (Q : Option Value → mm_H → Prop) (v1 : Int32) (v2 : Int64) (v4 : Int64) (v6 : Int64) (v8 : Int32) (v9 : Int32) (I : Nat → Nat → Int32) (J : Nat → Nat → Int64) : Prop := mm_w SL xs (mm_s SL xs (d + 3)) mm_am kX3_leastNumber 0 0 (some .long) Q 28 [some (.ref 29), some (.int v1), some (.long v2), none, some (.long v4), none, some (.long v6), none, some (.int v8), some (.int v9), none, none, none] [] (hp p s q I J) 0 0
theorem sg_X3_leastNumber {SL : Nat} {xs : Nat → Int32} {d : Nat} {p s q : Nat} {Q : Option Value → mm_H → Prop} {a0 : Int32} {I : Nat → Nat → Int32} {J : Nat → Nat → Int64}  (k : (((I 29 1) = Int32.ofInt 0 → Q (some (.long (Int64.ofInt (-1)))) (hp p s q I J)) ∧ (¬ ((I 29 1) = Int32.ofInt 0) → w_X3_leastNumber_28 SL xs d p s q Q a0 (sx_X6_all a0) (Int64.ofInt 0) (Int64.ofInt 1) (Int32.ofInt 0) (Int32.ofInt 0) I J))) : mm_s SL xs (d + 4) 35 [.ref 29, .int a0] (hp p s q I J) Q := by
  refine e_X3_leastNumber rfl ?_
  refine hs_L (L2 := [some (.ref 29), some (.int a0), none, none, none, none, none, none, none, none, none, none, none]) rfl ?_
  refine sp_aload_n 1 rfl rfl rfl ?_
  refine hq_getI 4 rfl rfl rfl ?_
  refine sp_if_ne 7 rfl rfl (fun q_ => ?_) (fun q_ => ?_)
  · have k := k.2 q_
    refine sp_iload_n 12 rfl rfl rfl ?_
    refine sc_S 15 rfl rfl rfl rfl (Nat.le_refl _) (Nat.le_refl _) rfl ?_
    refine cx_X6_all ?_
    refine hs_S (st2 := [.long (sx_X6_all a0)]) rfl ?_
    refine hs_lstore_n 16 (L2 := [some (.ref 29), some (.int a0), some (.long (sx_X6_all a0)), none, none, none, none, none, none, none, none, none, none]) rfl rfl rfl rfl ?_
    refine sp_lconst 17 rfl rfl ?_
    refine sp_J (y := Int64.ofInt 0) rfl ?_
    refine hs_lstore 19 (L2 := [some (.ref 29), some (.int a0), some (.long (sx_X6_all a0)), none, some (.long (Int64.ofInt 0)), none, none, none, none, none, none, none, none]) rfl rfl rfl rfl ?_
    refine sp_lconst 20 rfl rfl ?_
    refine sp_J (y := Int64.ofInt 1) rfl ?_
    refine hs_lstore 22 (L2 := [some (.ref 29), some (.int a0), some (.long (sx_X6_all a0)), none, some (.long (Int64.ofInt 0)), none, some (.long (Int64.ofInt 1)), none, none, none, none, none, none]) rfl rfl rfl rfl ?_
    refine sp_iconst 23 rfl rfl ?_
    refine hs_istore 25 (L2 := [some (.ref 29), some (.int a0), some (.long (sx_X6_all a0)), none, some (.long (Int64.ofInt 0)), none, some (.long (Int64.ofInt 1)), none, some (.int (Int32.ofInt 0)), none, none, none, none]) rfl rfl rfl rfl ?_
    refine sp_iconst 26 rfl rfl ?_
    refine hs_istore 28 (L2 := [some (.ref 29), some (.int a0), some (.long (sx_X6_all a0)), none, some (.long (Int64.ofInt 0)), none, some (.long (Int64.ofInt 1)), none, some (.int (Int32.ofInt 0)), some (.int (Int32.ofInt 0)), none, none, none]) rfl rfl rfl rfl ?_
    exact k
  · have k := k.1 q_
    refine sp_ldc2 10 rfl rfl ?_
    exact st_lret rfl rfl (Nat.le_refl _) (Nat.le_refl _) k
theorem sg_X3_leastNumber_28 {SL : Nat} {xs : Nat → Int32} {d : Nat} {p s q : Nat} {Q : Option Value → mm_H → Prop} {v1 : Int32} {v2 : Int64} {v4 : Int64} {v6 : Int64} {v8 : Int32} {v9 : Int32} {I : Nat → Nat → Int32} {J : Nat → Nat → Int64}  (k : (((I 29 1) ≤ v9 → ((v4 = (Int64.ofInt 0) → Q (some (.long v6)) (hp p s q I J)) ∧ (¬ (v4 = (Int64.ofInt 0)) → Q (some (.long v4)) (hp p s q I J)))) ∧ (¬ ((I 29 1) ≤ v9) → (((Int32.ofInt 8) ≤ v9 → ((v4 = (Int64.ofInt 0) → Q (some (.long v6)) (hp p s q I J)) ∧ (¬ (v4 = (Int64.ofInt 0)) → Q (some (.long v4)) (hp p s q I J)))) ∧ (¬ ((Int32.ofInt 8) ≤ v9) → (vp_in v9 60 ∧ (((v1 - v9) < (Int32.ofInt 1) → Q (some (.long (Int64.ofInt (-1)))) (hp p s q I J)) ∧ (¬ ((v1 - v9) < (Int32.ofInt 1)) → (((sx_X6_has v2 (I 30 ((v9).toNatClampNeg))) = Int32.ofInt 0 → Q (some (.long (Int64.ofInt (-1)))) (hp p s q I J)) ∧ (¬ ((sx_X6_has v2 (I 30 ((v9).toNatClampNeg))) = Int32.ofInt 0) → (mm_s SL xs (d + 3) 71 [.long v2, .int v8, .int (I 30 ((v9).toNatClampNeg))] (hp p s q I J) (fun r_ h_ => ∃ x1 I1 J1, r_ = some (.int x1) ∧ h_ = hp p s q I1 J1 ∧ (¬ (v1 - v9) = 0 ∧ (mm_s SL xs (d + 3) 36 [.long v4, .long v6, .int (x1 - x1 / (v1 - v9) * (v1 - v9)), .int (v1 - v9)] (hp p s q I1 J1) (fun r_ h_ => ∃ x2 I2 J2, r_ = some (.long x2) ∧ h_ = hp p s q I2 J2 ∧ (((Int64.ofInt 0) ≤ x2 → (mm_s SL xs (d + 3) 37 [.long v6, .int (v1 - v9)] (hp p s q I2 J2) (fun r_ h_ => ∃ x3 I3 J3, r_ = some (.long x3) ∧ h_ = hp p s q I3 J3 ∧ w_X3_leastNumber_28 SL xs d p s q Q v1 (v2 &&& ((sx_X6_bit (I 30 ((v9).toNatClampNeg))) ^^^ (Int64.ofInt (-1)))) x2 x3 (sx_X6_next (I 30 ((v9).toNatClampNeg)) v1 (Int32.ofInt 1)) (v9 + Int32.ofInt 1) I3 J3))) ∧ (¬ ((Int64.ofInt 0) ≤ x2) → Q (some (.long (Int64.ofInt (-1)))) (hp p s q I2 J2)))))))))))))))))) : w_X3_leastNumber_28 SL xs d p s q Q v1 v2 v4 v6 v8 v9 I J := by
  unfold w_X3_leastNumber_28
  refine sp_iload 30 rfl rfl rfl ?_
  refine sp_aload_n 31 rfl rfl rfl ?_
  refine hq_getI 34 rfl rfl rfl ?_
  refine sp_ic_ge 37 rfl rfl (fun q_ => ?_) (fun q_ => ?_)
  · have k := k.1 q_
    refine sp_lload 153 rfl rfl rfl ?_
    refine sp_lconst 154 rfl rfl ?_
    refine sp_J (y := Int64.ofInt 0) rfl ?_
    refine sp_lcmp 155 rfl rfl ?_
    refine sp_if_ne 158 rfl rfl (fun q_ => ?_) (fun q_ => ?_)
    · have k := k.2 (fun z_ => q_ ((lg_cmp_eq _ _).mpr z_))
      refine sp_lload 165 rfl rfl rfl ?_
      exact st_lret rfl rfl (Nat.le_refl _) (Nat.le_refl _) k
    · have k := k.1 ((lg_cmp_eq _ _).mp q_)
      refine sp_lload 160 rfl rfl rfl ?_
      refine sp_goto rfl ?_
      exact st_lret rfl rfl (Nat.le_refl _) (Nat.le_refl _) k
  · have k := k.2 q_
    refine sp_iload 39 rfl rfl rfl ?_
    refine sp_bipush 41 rfl rfl ?_
    refine sp_I (y := Int32.ofInt 8) rfl ?_
    refine sp_ic_ge 44 rfl rfl (fun q_ => ?_) (fun q_ => ?_)
    · have k := k.1 q_
      refine sp_lload 153 rfl rfl rfl ?_
      refine sp_lconst 154 rfl rfl ?_
      refine sp_J (y := Int64.ofInt 0) rfl ?_
      refine sp_lcmp 155 rfl rfl ?_
      refine sp_if_ne 158 rfl rfl (fun q_ => ?_) (fun q_ => ?_)
      · have k := k.2 (fun z_ => q_ ((lg_cmp_eq _ _).mpr z_))
        refine sp_lload 165 rfl rfl rfl ?_
        exact st_lret rfl rfl (Nat.le_refl _) (Nat.le_refl _) k
      · have k := k.1 ((lg_cmp_eq _ _).mp q_)
        refine sp_lload 160 rfl rfl rfl ?_
        refine sp_goto rfl ?_
        exact st_lret rfl rfl (Nat.le_refl _) (Nat.le_refl _) k
    · have k := k.2 q_
      refine sp_aload_n 45 rfl rfl rfl ?_
      refine hq_getR 48 rfl rfl rfl rfl ?_
      refine sp_iload 50 rfl rfl rfl ?_
      have n1_ := k.1
      have k := k.2
      refine hq_iald 51 rfl rfl n1_ rfl ?_
      refine hs_istore 53 (L2 := [some (.ref 29), some (.int v1), some (.long v2), none, some (.long v4), none, some (.long v6), none, some (.int v8), some (.int v9), some (.int (I 30 ((v9).toNatClampNeg))), none, none]) rfl rfl rfl rfl ?_
      refine sp_iload_n 54 rfl rfl rfl ?_
      refine sp_iload 56 rfl rfl rfl ?_
      refine sp_isub 57 rfl rfl ?_
      refine hs_istore 59 (L2 := [some (.ref 29), some (.int v1), some (.long v2), none, some (.long v4), none, some (.long v6), none, some (.int v8), some (.int v9), some (.int (I 30 ((v9).toNatClampNeg))), some (.int (v1 - v9)), none]) rfl rfl rfl rfl ?_
      refine sp_iload 61 rfl rfl rfl ?_
      refine sp_iconst 62 rfl rfl ?_
      refine sp_ic_lt 65 rfl rfl (fun q_ => ?_) (fun q_ => ?_)
      · have k := k.1 q_
        refine sp_ldc2 77 rfl rfl ?_
        exact st_lret rfl rfl (Nat.le_refl _) (Nat.le_refl _) k
      · have k := k.2 q_
        refine sp_lload_n 66 rfl rfl rfl ?_
        refine sp_iload 68 rfl rfl rfl ?_
        refine sc_S 71 rfl rfl rfl rfl (Nat.le_refl _) (Nat.le_refl _) rfl ?_
        refine cx_X6_has ?_
        refine hs_S (st2 := [.int (sx_X6_has v2 (I 30 ((v9).toNatClampNeg)))]) rfl ?_
        refine sp_if_ne 74 rfl rfl (fun q_ => ?_) (fun q_ => ?_)
        · have k := k.2 q_
          refine sp_lload_n 79 rfl rfl rfl ?_
          refine sp_iload 81 rfl rfl rfl ?_
          refine sp_iload 83 rfl rfl rfl ?_
          refine sc_S 86 rfl rfl rfl rfl (Nat.le_refl _) (Nat.le_refl _) rfl ?_
          refine mm_s_mono _ _ _ _ _ _ ?_ k
          rintro r_ h_ ⟨x1, I1, J1, rfl, rfl, k⟩
          refine hs_S (st2 := [.int x1]) rfl ?_
          refine sp_iload 88 rfl rfl rfl ?_
          have n2_ := k.1
          have k := k.2
          refine sp_irem 89 rfl n2_ rfl ?_
          refine hs_istore 91 (L2 := [some (.ref 29), some (.int v1), some (.long v2), none, some (.long v4), none, some (.long v6), none, some (.int v8), some (.int v9), some (.int (I 30 ((v9).toNatClampNeg))), some (.int (v1 - v9)), some (.int (x1 - x1 / (v1 - v9) * (v1 - v9)))]) rfl rfl rfl rfl ?_
          refine sp_lload 93 rfl rfl rfl ?_
          refine sp_lload 95 rfl rfl rfl ?_
          refine sp_iload 97 rfl rfl rfl ?_
          refine sp_iload 99 rfl rfl rfl ?_
          refine sc_S 102 rfl rfl rfl rfl (Nat.le_refl _) (Nat.le_refl _) rfl ?_
          refine mm_s_mono _ _ _ _ _ _ ?_ k
          rintro r_ h_ ⟨x2, I2, J2, rfl, rfl, k⟩
          refine hs_S (st2 := [.long x2]) rfl ?_
          refine hs_lstore 104 (L2 := [some (.ref 29), some (.int v1), some (.long v2), none, some (.long x2), none, some (.long v6), none, some (.int v8), some (.int v9), some (.int (I 30 ((v9).toNatClampNeg))), some (.int (v1 - v9)), some (.int (x1 - x1 / (v1 - v9) * (v1 - v9)))]) rfl rfl rfl rfl ?_
          refine sp_lload 106 rfl rfl rfl ?_
          refine sp_lconst 107 rfl rfl ?_
          refine sp_J (y := Int64.ofInt 0) rfl ?_
          refine sp_lcmp 108 rfl rfl ?_
          refine sp_if_ge 111 rfl rfl (fun q_ => ?_) (fun q_ => ?_)
          · have k := k.1 ((lg_cmp_ge _ _).mp q_)
            refine sp_lload 117 rfl rfl rfl ?_
            refine sp_iload 119 rfl rfl rfl ?_
            refine sc_S 122 rfl rfl rfl rfl (Nat.le_refl _) (Nat.le_refl _) rfl ?_
            refine mm_s_mono _ _ _ _ _ _ ?_ k
            rintro r_ h_ ⟨x3, I3, J3, rfl, rfl, k⟩
            refine hs_S (st2 := [.long x3]) rfl ?_
            refine hs_lstore 124 (L2 := [some (.ref 29), some (.int v1), some (.long v2), none, some (.long x2), none, some (.long x3), none, some (.int v8), some (.int v9), some (.int (I 30 ((v9).toNatClampNeg))), some (.int (v1 - v9)), some (.int (x1 - x1 / (v1 - v9) * (v1 - v9)))]) rfl rfl rfl rfl ?_
            refine sp_lload_n 125 rfl rfl rfl ?_
            refine sp_iload 127 rfl rfl rfl ?_
            refine sc_S 130 rfl rfl rfl rfl (Nat.le_refl _) (Nat.le_refl _) rfl ?_
            refine cx_X6_bit ?_
            refine hs_S (st2 := [.long (sx_X6_bit (I 30 ((v9).toNatClampNeg))), .long v2]) rfl ?_
            refine sp_ldc2 133 rfl rfl ?_
            refine sp_lxor 134 rfl rfl ?_
            refine sp_land 135 rfl rfl ?_
            refine hs_lstore_n 136 (L2 := [some (.ref 29), some (.int v1), some (.long (v2 &&& ((sx_X6_bit (I 30 ((v9).toNatClampNeg))) ^^^ (Int64.ofInt (-1))))), none, some (.long x2), none, some (.long x3), none, some (.int v8), some (.int v9), some (.int (I 30 ((v9).toNatClampNeg))), some (.int (v1 - v9)), some (.int (x1 - x1 / (v1 - v9) * (v1 - v9)))]) rfl rfl rfl rfl ?_
            refine sp_iload 138 rfl rfl rfl ?_
            refine sp_iload_n 139 rfl rfl rfl ?_
            refine sp_iconst 140 rfl rfl ?_
            refine sc_S 143 rfl rfl rfl rfl (Nat.le_refl _) (Nat.le_refl _) rfl ?_
            refine cx_X6_next ?_
            refine hs_S (st2 := [.int (sx_X6_next (I 30 ((v9).toNatClampNeg)) v1 (Int32.ofInt 1))]) rfl ?_
            refine hs_istore 145 (L2 := [some (.ref 29), some (.int v1), some (.long (v2 &&& ((sx_X6_bit (I 30 ((v9).toNatClampNeg))) ^^^ (Int64.ofInt (-1))))), none, some (.long x2), none, some (.long x3), none, some (.int (sx_X6_next (I 30 ((v9).toNatClampNeg)) v1 (Int32.ofInt 1))), some (.int v9), some (.int (I 30 ((v9).toNatClampNeg))), some (.int (v1 - v9)), some (.int (x1 - x1 / (v1 - v9) * (v1 - v9)))]) rfl rfl rfl rfl ?_
            refine hs_iinc 148 (L2 := [some (.ref 29), some (.int v1), some (.long (v2 &&& ((sx_X6_bit (I 30 ((v9).toNatClampNeg))) ^^^ (Int64.ofInt (-1))))), none, some (.long x2), none, some (.long x3), none, some (.int (sx_X6_next (I 30 ((v9).toNatClampNeg)) v1 (Int32.ofInt 1))), some (.int (v9 + Int32.ofInt 1)), some (.int (I 30 ((v9).toNatClampNeg))), some (.int (v1 - v9)), some (.int (x1 - x1 / (v1 - v9) * (v1 - v9)))]) rfl rfl rfl rfl rfl ?_
            refine sp_goto rfl ?_
            refine st_wk (L1 := [some (.ref 29), some (.int v1), some (.long (v2 &&& ((sx_X6_bit (I 30 ((v9).toNatClampNeg))) ^^^ (Int64.ofInt (-1))))), none, some (.long x2), none, some (.long x3), none, some (.int (sx_X6_next (I 30 ((v9).toNatClampNeg)) v1 (Int32.ofInt 1))), some (.int (v9 + Int32.ofInt 1)), none, none, none]) ⟨.inr rfl, .inr rfl, .inr rfl, .inl rfl, .inr rfl, .inl rfl, .inr rfl, .inl rfl, .inr rfl, .inr rfl, .inl rfl, .inl rfl, .inl rfl, trivial⟩ ?_
            exact k
          · have k := k.2 (fun z_ => q_ ((lg_cmp_ge _ _).mpr z_))
            refine sp_ldc2 114 rfl rfl ?_
            exact st_lret rfl rfl (Nat.le_refl _) (Nat.le_refl _) k
        · have k := k.1 q_
          refine sp_ldc2 77 rfl rfl ?_
          exact st_lret rfl rfl (Nat.le_refl _) (Nat.le_refl _) k
def w_X4_sends_12 (SL : Nat) (xs : Nat → Int32) (d : Nat) (p s q : Nat) (Q : Option Value → mm_H → Prop) (v0 : Int32) (v1 : Int32) (v2 : Int64) (v4 : Int32) (v5 : Int64) (v7 : Int32) (v8 : Int32) (I : Nat → Nat → Int32) (J : Nat → Nat → Int64) : Prop := mm_w SL xs (mm_s SL xs (d + 3)) mm_am kX4_sends 0 0 (some .boolean) Q 12 [some (.int v0), some (.int v1), some (.long v2), none, some (.int v4), some (.long v5), none, some (.int v7), some (.int v8), none] [] (hp p s q I J) 0 0
theorem sg_X4_sends {SL : Nat} {xs : Nat → Int32} {d : Nat} {p s q : Nat} {Q : Option Value → mm_H → Prop} {a0 : Int32} {a1 : Int32} {a2 : Int64} {a3 : Int32} {I : Nat → Nat → Int32} {J : Nat → Nat → Int64}  (k : w_X4_sends_12 SL xs d p s q Q a0 a1 a2 a3 (sx_X6_all a0) (Int32.ofInt 0) (Int32.ofInt 0) I J) : mm_s SL xs (d + 4) 45 [.int a0, .int a1, .long a2, .int a3] (hp p s q I J) Q := by
  refine e_X4_sends rfl ?_
  refine hs_L (L2 := [some (.int a0), some (.int a1), some (.long a2), none, some (.int a3), none, none, none, none, none]) rfl ?_
  refine sp_iload_n 1 rfl rfl rfl ?_
  refine sc_S 4 rfl rfl rfl rfl (Nat.le_refl _) (Nat.le_refl _) rfl ?_
  refine cx_X6_all ?_
  refine hs_S (st2 := [.long (sx_X6_all a0)]) rfl ?_
  refine hs_lstore 6 (L2 := [some (.int a0), some (.int a1), some (.long a2), none, some (.int a3), some (.long (sx_X6_all a0)), none, none, none, none]) rfl rfl rfl rfl ?_
  refine sp_iconst 7 rfl rfl ?_
  refine hs_istore 9 (L2 := [some (.int a0), some (.int a1), some (.long a2), none, some (.int a3), some (.long (sx_X6_all a0)), none, some (.int (Int32.ofInt 0)), none, none]) rfl rfl rfl rfl ?_
  refine sp_iconst 10 rfl rfl ?_
  refine hs_istore 12 (L2 := [some (.int a0), some (.int a1), some (.long a2), none, some (.int a3), some (.long (sx_X6_all a0)), none, some (.int (Int32.ofInt 0)), some (.int (Int32.ofInt 0)), none]) rfl rfl rfl rfl ?_
  exact k
theorem sg_X4_sends_12 {SL : Nat} {xs : Nat → Int32} {d : Nat} {p s q : Nat} {Q : Option Value → mm_H → Prop} {v0 : Int32} {v1 : Int32} {v2 : Int64} {v4 : Int32} {v5 : Int64} {v7 : Int32} {v8 : Int32} {I : Nat → Nat → Int32} {J : Nat → Nat → Int64}  (k : ((v4 ≤ v8 → Q (some (.int (Int32.ofInt 1))) (hp p s q I J)) ∧ (¬ (v4 ≤ v8) → ((v0 ≤ v8 → Q (some (.int (Int32.ofInt 1))) (hp p s q I J)) ∧ (¬ (v0 ≤ v8) → (¬ (v0 - v8) = 0 ∧ (mm_s SL xs (d + 3) 69 [.long v5, .int (((v7 + v1) - (Int32.ofInt 1)) - ((v7 + v1) - (Int32.ofInt 1)) / (v0 - v8) * (v0 - v8))] (hp p s q I J) (fun r_ h_ => ∃ x1 I1 J1, r_ = some (.int x1) ∧ h_ = hp p s q I1 J1 ∧ (((sx_X6_has v2 x1) = Int32.ofInt 0 → Q (some (.int (Int32.ofInt 0))) (hp p s q I1 J1)) ∧ (¬ ((sx_X6_has v2 x1) = Int32.ofInt 0) → w_X4_sends_12 SL xs d p s q Q v0 v1 v2 v4 (v5 &&& ((sx_X6_bit x1) ^^^ (Int64.ofInt (-1)))) (((v7 + v1) - (Int32.ofInt 1)) - ((v7 + v1) - (Int32.ofInt 1)) / (v0 - v8) * (v0 - v8)) (v8 + Int32.ofInt 1) I1 J1)))))))))) : w_X4_sends_12 SL xs d p s q Q v0 v1 v2 v4 v5 v7 v8 I J := by
  unfold w_X4_sends_12
  refine sp_iload 14 rfl rfl rfl ?_
  refine sp_iload 16 rfl rfl rfl ?_
  refine sp_ic_ge 19 rfl rfl (fun q_ => ?_) (fun q_ => ?_)
  · have k := k.1 q_
    refine sp_iconst 79 rfl rfl ?_
    exact st_zret rfl rfl (by decide) (Nat.le_refl _) (Nat.le_refl _) k
  · have k := k.2 q_
    refine sp_iload 21 rfl rfl rfl ?_
    refine sp_iload_n 22 rfl rfl rfl ?_
    refine sp_ic_ge 25 rfl rfl (fun q_ => ?_) (fun q_ => ?_)
    · have k := k.1 q_
      refine sp_iconst 79 rfl rfl ?_
      exact st_zret rfl rfl (by decide) (Nat.le_refl _) (Nat.le_refl _) k
    · have k := k.2 q_
      refine sp_iload 27 rfl rfl rfl ?_
      refine sp_iload_n 28 rfl rfl rfl ?_
      refine sp_iadd 29 rfl rfl ?_
      refine sp_iconst 30 rfl rfl ?_
      refine sp_isub 31 rfl rfl ?_
      refine sp_iload_n 32 rfl rfl rfl ?_
      refine sp_iload 34 rfl rfl rfl ?_
      refine sp_isub 35 rfl rfl ?_
      have n1_ := k.1
      have k := k.2
      refine sp_irem 36 rfl n1_ rfl ?_
      refine hs_istore 38 (L2 := [some (.int v0), some (.int v1), some (.long v2), none, some (.int v4), some (.long v5), none, some (.int (((v7 + v1) - (Int32.ofInt 1)) - ((v7 + v1) - (Int32.ofInt 1)) / (v0 - v8) * (v0 - v8))), some (.int v8), none]) rfl rfl rfl rfl ?_
      refine sp_lload 40 rfl rfl rfl ?_
      refine sp_iload 42 rfl rfl rfl ?_
      refine sc_S 45 rfl rfl rfl rfl (Nat.le_refl _) (Nat.le_refl _) rfl ?_
      refine mm_s_mono _ _ _ _ _ _ ?_ k
      rintro r_ h_ ⟨x1, I1, J1, rfl, rfl, k⟩
      refine hs_S (st2 := [.int x1]) rfl ?_
      refine hs_istore 47 (L2 := [some (.int v0), some (.int v1), some (.long v2), none, some (.int v4), some (.long v5), none, some (.int (((v7 + v1) - (Int32.ofInt 1)) - ((v7 + v1) - (Int32.ofInt 1)) / (v0 - v8) * (v0 - v8))), some (.int v8), some (.int x1)]) rfl rfl rfl rfl ?_
      refine sp_lload_n 48 rfl rfl rfl ?_
      refine sp_iload 50 rfl rfl rfl ?_
      refine sc_S 53 rfl rfl rfl rfl (Nat.le_refl _) (Nat.le_refl _) rfl ?_
      refine cx_X6_has ?_
      refine hs_S (st2 := [.int (sx_X6_has v2 x1)]) rfl ?_
      refine sp_if_ne 56 rfl rfl (fun q_ => ?_) (fun q_ => ?_)
      · have k := k.2 q_
        refine sp_lload 60 rfl rfl rfl ?_
        refine sp_iload 62 rfl rfl rfl ?_
        refine sc_S 65 rfl rfl rfl rfl (Nat.le_refl _) (Nat.le_refl _) rfl ?_
        refine cx_X6_bit ?_
        refine hs_S (st2 := [.long (sx_X6_bit x1), .long v5]) rfl ?_
        refine sp_ldc2 68 rfl rfl ?_
        refine sp_lxor 69 rfl rfl ?_
        refine sp_land 70 rfl rfl ?_
        refine hs_lstore 72 (L2 := [some (.int v0), some (.int v1), some (.long v2), none, some (.int v4), some (.long (v5 &&& ((sx_X6_bit x1) ^^^ (Int64.ofInt (-1))))), none, some (.int (((v7 + v1) - (Int32.ofInt 1)) - ((v7 + v1) - (Int32.ofInt 1)) / (v0 - v8) * (v0 - v8))), some (.int v8), some (.int x1)]) rfl rfl rfl rfl ?_
        refine hs_iinc 75 (L2 := [some (.int v0), some (.int v1), some (.long v2), none, some (.int v4), some (.long (v5 &&& ((sx_X6_bit x1) ^^^ (Int64.ofInt (-1))))), none, some (.int (((v7 + v1) - (Int32.ofInt 1)) - ((v7 + v1) - (Int32.ofInt 1)) / (v0 - v8) * (v0 - v8))), some (.int (v8 + Int32.ofInt 1)), some (.int x1)]) rfl rfl rfl rfl rfl ?_
        refine sp_goto rfl ?_
        refine st_wk (L1 := [some (.int v0), some (.int v1), some (.long v2), none, some (.int v4), some (.long (v5 &&& ((sx_X6_bit x1) ^^^ (Int64.ofInt (-1))))), none, some (.int (((v7 + v1) - (Int32.ofInt 1)) - ((v7 + v1) - (Int32.ofInt 1)) / (v0 - v8) * (v0 - v8))), some (.int (v8 + Int32.ofInt 1)), none]) ⟨.inr rfl, .inr rfl, .inr rfl, .inl rfl, .inr rfl, .inr rfl, .inl rfl, .inr rfl, .inr rfl, .inl rfl, trivial⟩ ?_
        exact k
      · have k := k.1 q_
        refine sp_iconst 57 rfl rfl ?_
        exact st_zret rfl rfl (by decide) (Nat.le_refl _) (Nat.le_refl _) k
theorem sg_X6_counted {SL : Nat} {xs : Nat → Int32} {d : Nat} {p s q : Nat} {Q : Option Value → mm_H → Prop} {a0 : Int64} {a1 : Int32} {a2 : Int32} {a3 : Int32} {I : Nat → Nat → Int32} {J : Nat → Nat → Int64}  (k : (((sx_J13_bitCount_95d88 a0) = Int32.ofInt 0 → Q (some (.int (Int32.ofInt (-1)))) (hp p s q I J)) ∧ (¬ ((sx_J13_bitCount_95d88 a0) = Int32.ofInt 0) → (¬ (sx_J13_bitCount_95d88 a0) = 0 ∧ ((a2 = Int32.ofInt 0 → (mm_s SL xs (d + 3) 277 [.int (((sx_X6_below a0 (a1 + (Int32.ofInt 1))) - (Int32.ofInt 1)) - ((a3 - (Int32.ofInt 1)) - (a3 - (Int32.ofInt 1)) / (sx_J13_bitCount_95d88 a0) * (sx_J13_bitCount_95d88 a0))), .int (sx_J13_bitCount_95d88 a0)] (hp p s q I J) (fun r_ h_ => ∃ x1 I1 J1, r_ = some (.int x1) ∧ h_ = hp p s q I1 J1 ∧ (mm_s SL xs (d + 3) 69 [.long a0, .int x1] (hp p s q I1 J1) (fun r_ h_ => ∃ x2 I2 J2, r_ = some (.int x2) ∧ h_ = hp p s q I2 J2 ∧ Q (some (.int x2)) (hp p s q I2 J2)))))) ∧ (¬ (a2 = Int32.ofInt 0) → (mm_s SL xs (d + 3) 277 [.int ((sx_X6_below a0 a1) + ((a3 - (Int32.ofInt 1)) - (a3 - (Int32.ofInt 1)) / (sx_J13_bitCount_95d88 a0) * (sx_J13_bitCount_95d88 a0))), .int (sx_J13_bitCount_95d88 a0)] (hp p s q I J) (fun r_ h_ => ∃ x3 I3 J3, r_ = some (.int x3) ∧ h_ = hp p s q I3 J3 ∧ (mm_s SL xs (d + 3) 69 [.long a0, .int x3] (hp p s q I3 J3) (fun r_ h_ => ∃ x4 I4 J4, r_ = some (.int x4) ∧ h_ = hp p s q I4 J4 ∧ Q (some (.int x4)) (hp p s q I4 J4))))))))))) : mm_s SL xs (d + 4) 70 [.long a0, .int a1, .int a2, .int a3] (hp p s q I J) Q := by
  refine e_X6_counted rfl ?_
  refine hs_L (L2 := [some (.long a0), none, some (.int a1), some (.int a2), some (.int a3), none, none, none]) rfl ?_
  refine sp_lload_n 1 rfl rfl rfl ?_
  refine sc_S 4 rfl rfl rfl rfl (Nat.le_refl _) (Nat.le_refl _) rfl ?_
  refine cx_J13_bitCount_95d88 ?_
  refine hs_S (st2 := [.int (sx_J13_bitCount_95d88 a0)]) rfl ?_
  refine hs_istore 6 (L2 := [some (.long a0), none, some (.int a1), some (.int a2), some (.int a3), some (.int (sx_J13_bitCount_95d88 a0)), none, none]) rfl rfl rfl rfl ?_
  refine sp_iload 8 rfl rfl rfl ?_
  refine sp_if_ne 11 rfl rfl (fun q_ => ?_) (fun q_ => ?_)
  · have k := k.2 q_
    refine sp_iload 15 rfl rfl rfl ?_
    refine sp_iconst 16 rfl rfl ?_
    refine sp_isub 17 rfl rfl ?_
    refine sp_iload 19 rfl rfl rfl ?_
    have n1_ := k.1
    have k := k.2
    refine sp_irem 20 rfl n1_ rfl ?_
    refine hs_istore 22 (L2 := [some (.long a0), none, some (.int a1), some (.int a2), some (.int a3), some (.int (sx_J13_bitCount_95d88 a0)), some (.int ((a3 - (Int32.ofInt 1)) - (a3 - (Int32.ofInt 1)) / (sx_J13_bitCount_95d88 a0) * (sx_J13_bitCount_95d88 a0))), none]) rfl rfl rfl rfl ?_
    refine sp_iload_n 23 rfl rfl rfl ?_
    refine sp_if_eq 26 rfl rfl (fun q_ => ?_) (fun q_ => ?_)
    · have k := k.1 q_
      refine sp_lload_n 38 rfl rfl rfl ?_
      refine sp_iload_n 39 rfl rfl rfl ?_
      refine sp_iconst 40 rfl rfl ?_
      refine sp_iadd 41 rfl rfl ?_
      refine sc_S 44 rfl rfl rfl rfl (Nat.le_refl _) (Nat.le_refl _) rfl ?_
      refine cx_X6_below ?_
      refine hs_S (st2 := [.int (sx_X6_below a0 (a1 + (Int32.ofInt 1)))]) rfl ?_
      refine sp_iconst 45 rfl rfl ?_
      refine sp_isub 46 rfl rfl ?_
      refine sp_iload 48 rfl rfl rfl ?_
      refine sp_isub 49 rfl rfl ?_
      refine hs_istore 51 (L2 := [some (.long a0), none, some (.int a1), some (.int a2), some (.int a3), some (.int (sx_J13_bitCount_95d88 a0)), some (.int ((a3 - (Int32.ofInt 1)) - (a3 - (Int32.ofInt 1)) / (sx_J13_bitCount_95d88 a0) * (sx_J13_bitCount_95d88 a0))), some (.int (((sx_X6_below a0 (a1 + (Int32.ofInt 1))) - (Int32.ofInt 1)) - ((a3 - (Int32.ofInt 1)) - (a3 - (Int32.ofInt 1)) / (sx_J13_bitCount_95d88 a0) * (sx_J13_bitCount_95d88 a0))))]) rfl rfl rfl rfl ?_
      refine sp_lload_n 52 rfl rfl rfl ?_
      refine sp_iload 54 rfl rfl rfl ?_
      refine sp_iload 56 rfl rfl rfl ?_
      refine sc_S 59 rfl rfl rfl rfl (Nat.le_refl _) (Nat.le_refl _) rfl ?_
      refine mm_s_mono _ _ _ _ _ _ ?_ k
      rintro r_ h_ ⟨x1, I1, J1, rfl, rfl, k⟩
      refine hs_S (st2 := [.int x1, .long a0]) rfl ?_
      refine sc_S 62 rfl rfl rfl rfl (Nat.le_refl _) (Nat.le_refl _) rfl ?_
      refine mm_s_mono _ _ _ _ _ _ ?_ k
      rintro r_ h_ ⟨x2, I2, J2, rfl, rfl, k⟩
      refine hs_S (st2 := [.int x2]) rfl ?_
      exact st_iret rfl rfl (Nat.le_refl _) (Nat.le_refl _) k
    · have k := k.2 q_
      refine sp_lload_n 27 rfl rfl rfl ?_
      refine sp_iload_n 28 rfl rfl rfl ?_
      refine sc_S 31 rfl rfl rfl rfl (Nat.le_refl _) (Nat.le_refl _) rfl ?_
      refine cx_X6_below ?_
      refine hs_S (st2 := [.int (sx_X6_below a0 a1)]) rfl ?_
      refine sp_iload 33 rfl rfl rfl ?_
      refine sp_iadd 34 rfl rfl ?_
      refine sp_goto rfl ?_
      refine hs_istore 51 (L2 := [some (.long a0), none, some (.int a1), some (.int a2), some (.int a3), some (.int (sx_J13_bitCount_95d88 a0)), some (.int ((a3 - (Int32.ofInt 1)) - (a3 - (Int32.ofInt 1)) / (sx_J13_bitCount_95d88 a0) * (sx_J13_bitCount_95d88 a0))), some (.int ((sx_X6_below a0 a1) + ((a3 - (Int32.ofInt 1)) - (a3 - (Int32.ofInt 1)) / (sx_J13_bitCount_95d88 a0) * (sx_J13_bitCount_95d88 a0))))]) rfl rfl rfl rfl ?_
      refine sp_lload_n 52 rfl rfl rfl ?_
      refine sp_iload 54 rfl rfl rfl ?_
      refine sp_iload 56 rfl rfl rfl ?_
      refine sc_S 59 rfl rfl rfl rfl (Nat.le_refl _) (Nat.le_refl _) rfl ?_
      refine mm_s_mono _ _ _ _ _ _ ?_ k
      rintro r_ h_ ⟨x3, I3, J3, rfl, rfl, k⟩
      refine hs_S (st2 := [.int x3, .long a0]) rfl ?_
      refine sc_S 62 rfl rfl rfl rfl (Nat.le_refl _) (Nat.le_refl _) rfl ?_
      refine mm_s_mono _ _ _ _ _ _ ?_ k
      rintro r_ h_ ⟨x4, I4, J4, rfl, rfl, k⟩
      refine hs_S (st2 := [.int x4]) rfl ?_
      exact st_iret rfl rfl (Nat.le_refl _) (Nat.le_refl _) k
  · have k := k.1 q_
    refine sp_iconst 12 rfl rfl ?_
    exact st_iret rfl rfl (Nat.le_refl _) (Nat.le_refl _) k
theorem sg_X7_take {SL : Nat} {xs : Nat → Int32} {d : Nat} {p s q : Nat} {Q : Option Value → mm_H → Prop} {a0 : Int32} {I : Nat → Nat → Int32} {J : Nat → Nat → Int64}  (k : (((I 4 2) = a0 → (mm_s SL xs (d + 3) 105 [.ref 4] (hp p s q I J) (fun r_ h_ => ∃ I1 J1, r_ = none ∧ h_ = hp p s q I1 J1 ∧ Q (some (.int (Int32.ofInt 1))) (hp p s q I1 J1)))) ∧ (¬ ((I 4 2) = a0) → (mm_s SL xs (d + 3) 74 [.ref 3, .int (Int32.ofInt 2)] (hp p s q I J) (fun r_ h_ => ∃ x2 I2 J2, r_ = some (.int x2) ∧ h_ = hp p s q I2 J2 ∧ ((x2 = 0 ∨ x2 = 1) ∧ Q (some (.int x2)) (hp p s q I2 J2))))))) : mm_s SL xs (d + 4) 75 [.ref 3, .int a0] (hp p s q I J) Q := by
  refine e_X7_take rfl ?_
  refine hs_L (L2 := [some (.ref 3), some (.int a0)]) rfl ?_
  refine sp_aload_n 1 rfl rfl rfl ?_
  refine hq_getR 4 rfl rfl rfl rfl ?_
  refine hq_getI 7 rfl rfl rfl ?_
  refine sp_iload_n 8 rfl rfl rfl ?_
  refine sp_ic_eq 11 rfl rfl (fun q_ => ?_) (fun q_ => ?_)
  · have k := k.1 q_
    refine sp_aload_n 18 rfl rfl rfl ?_
    refine hq_getR 21 rfl rfl rfl rfl ?_
    refine sc_V 24 rfl rfl rfl rfl rfl (Nat.le_refl _) (Nat.le_refl _) rfl ?_
    refine mm_s_mono _ _ _ _ _ _ ?_ k
    rintro r_ h_ ⟨I1, J1, rfl, rfl, k⟩
    refine hs_S (st2 := []) rfl ?_
    refine sp_iconst 25 rfl rfl ?_
    exact st_zret rfl rfl (by decide) (Nat.le_refl _) (Nat.le_refl _) k
  · have k := k.2 q_
    refine sp_aload_n 12 rfl rfl rfl ?_
    refine sp_iconst 13 rfl rfl ?_
    refine sc_V 16 rfl rfl rfl rfl rfl (Nat.le_refl _) (Nat.le_refl _) rfl ?_
    refine mm_s_mono _ _ _ _ _ _ ?_ k
    rintro r_ h_ ⟨x2, I2, J2, rfl, rfl, k⟩
    refine hs_S (st2 := [.int x2]) rfl ?_
    exact st_zret rfl rfl k.1 (Nat.le_refl _) (Nat.le_refl _) k.2
def w_X7_readSetting_21 (SL : Nat) (xs : Nat → Int32) (d : Nat) (p s q : Nat) (Q : Option Value → mm_H → Prop) (v1 : Int32) (I : Nat → Nat → Int32) (J : Nat → Nat → Int64) : Prop := mm_w SL xs (mm_s SL xs (d + 3)) mm_am kX7_readSetting 0 0 (some .boolean) Q 21 [some (.ref 3), some (.int v1), none, none] [] (hp p s q I J) 0 0
def w_X7_readSetting_27 (SL : Nat) (xs : Nat → Int32) (d : Nat) (p s q : Nat) (Q : Option Value → mm_H → Prop) (v1 : Int32) (v2 : Int32) (I : Nat → Nat → Int32) (J : Nat → Nat → Int64) : Prop := mm_w SL xs (mm_s SL xs (d + 3)) mm_am kX7_readSetting 0 0 (some .boolean) Q 27 [some (.ref 3), some (.int v1), some (.int v2), none] [] (hp p s q I J) 0 0
def w_X7_readSetting_66 (SL : Nat) (xs : Nat → Int32) (d : Nat) (p s q : Nat) (Q : Option Value → mm_H → Prop) (v1 : Int32) (v2 : Int32) (v3 : Int32) (I : Nat → Nat → Int32) (J : Nat → Nat → Int64) : Prop := mm_w SL xs (mm_s SL xs (d + 3)) mm_am kX7_readSetting 0 0 (some .boolean) Q 66 [some (.ref 3), some (.int v1), some (.int v2), some (.int v3)] [] (hp p s q I J) 0 0
theorem sg_X7_readSetting {SL : Nat} {xs : Nat → Int32} {d : Nat} {p s q : Nat} {Q : Option Value → mm_H → Prop} {a0 : Int32} {I : Nat → Nat → Int32} {J : Nat → Nat → Int64}  (k : ((a0 = (Int32.ofInt 128) → w_X7_readSetting_21 SL xs d p s q Q a0 I J) ∧ (¬ (a0 = (Int32.ofInt 128)) → ((a0 = (Int32.ofInt 130) → w_X7_readSetting_21 SL xs d p s q Q a0 I J) ∧ (¬ (a0 = (Int32.ofInt 130)) → ((a0 = (Int32.ofInt 132) → w_X7_readSetting_21 SL xs d p s q Q a0 I J) ∧ (¬ (a0 = (Int32.ofInt 132)) → w_X7_readSetting_27 SL xs d p s q Q a0 (Int32.ofInt 0) I J))))))) : mm_s SL xs (d + 4) 79 [.ref 3, .int a0] (hp p s q I J) Q := by
  refine e_X7_readSetting rfl ?_
  refine hs_L (L2 := [some (.ref 3), some (.int a0), none, none]) rfl ?_
  refine sp_iload_n 1 rfl rfl rfl ?_
  refine sp_sipush 4 rfl rfl ?_
  refine sp_I (y := Int32.ofInt 128) rfl ?_
  refine sp_ic_eq 7 rfl rfl (fun q_ => ?_) (fun q_ => ?_)
  · have k := k.1 q_
    exact k
  · have k := k.2 q_
    refine sp_iload_n 8 rfl rfl rfl ?_
    refine sp_sipush 11 rfl rfl ?_
    refine sp_I (y := Int32.ofInt 130) rfl ?_
    refine sp_ic_eq 14 rfl rfl (fun q_ => ?_) (fun q_ => ?_)
    · have k := k.1 q_
      exact k
    · have k := k.2 q_
      refine sp_iload_n 15 rfl rfl rfl ?_
      refine sp_sipush 18 rfl rfl ?_
      refine sp_I (y := Int32.ofInt 132) rfl ?_
      refine sp_ic_ne 21 rfl rfl (fun q_ => ?_) (fun q_ => ?_)
      · have k := k.2 q_
        refine sp_iconst 26 rfl rfl ?_
        refine hs_istore_n 27 (L2 := [some (.ref 3), some (.int a0), some (.int (Int32.ofInt 0)), none]) rfl rfl rfl rfl ?_
        exact k
      · have k := k.1 q_
        exact k
theorem sg_X7_readSetting_21 {SL : Nat} {xs : Nat → Int32} {d : Nat} {p s q : Nat} {Q : Option Value → mm_H → Prop} {v1 : Int32} {I : Nat → Nat → Int32} {J : Nat → Nat → Int64}  (k : w_X7_readSetting_27 SL xs d p s q Q v1 (Int32.ofInt 1) I J) : w_X7_readSetting_21 SL xs d p s q Q v1 I J := by
  unfold w_X7_readSetting_21
  refine sp_iconst 22 rfl rfl ?_
  refine sp_goto rfl ?_
  refine hs_istore_n 27 (L2 := [some (.ref 3), some (.int v1), some (.int (Int32.ofInt 1)), none]) rfl rfl rfl rfl ?_
  exact k
theorem sg_X7_readSetting_27 {SL : Nat} {xs : Nat → Int32} {d : Nat} {p s q : Nat} {Q : Option Value → mm_H → Prop} {v1 : Int32} {v2 : Int32} {I : Nat → Nat → Int32} {J : Nat → Nat → Int64}  (k : ((v1 = (Int32.ofInt 128) → w_X7_readSetting_66 SL xs d p s q Q v1 v2 (Int32.ofInt 60) I J) ∧ (¬ (v1 = (Int32.ofInt 128)) → ((v1 = (Int32.ofInt 132) → w_X7_readSetting_66 SL xs d p s q Q v1 v2 (Int32.ofInt 99) I J) ∧ (¬ (v1 = (Int32.ofInt 132)) → ((v1 = (Int32.ofInt 133) → w_X7_readSetting_66 SL xs d p s q Q v1 v2 (Int32.ofInt 9) I J) ∧ (¬ (v1 = (Int32.ofInt 133)) → w_X7_readSetting_66 SL xs d p s q Q v1 v2 (Int32.ofInt 59) I J))))))) : w_X7_readSetting_27 SL xs d p s q Q v1 v2 I J := by
  unfold w_X7_readSetting_27
  refine sp_iload_n 28 rfl rfl rfl ?_
  refine sp_sipush 31 rfl rfl ?_
  refine sp_I (y := Int32.ofInt 128) rfl ?_
  refine sp_ic_ne 34 rfl rfl (fun q_ => ?_) (fun q_ => ?_)
  · have k := k.2 q_
    refine sp_iload_n 40 rfl rfl rfl ?_
    refine sp_sipush 43 rfl rfl ?_
    refine sp_I (y := Int32.ofInt 132) rfl ?_
    refine sp_ic_ne 46 rfl rfl (fun q_ => ?_) (fun q_ => ?_)
    · have k := k.2 q_
      refine sp_iload_n 52 rfl rfl rfl ?_
      refine sp_sipush 55 rfl rfl ?_
      refine sp_I (y := Int32.ofInt 133) rfl ?_
      refine sp_ic_ne 58 rfl rfl (fun q_ => ?_) (fun q_ => ?_)
      · have k := k.2 q_
        refine sp_bipush 65 rfl rfl ?_
        refine sp_I (y := Int32.ofInt 59) rfl ?_
        refine hs_istore_n 66 (L2 := [some (.ref 3), some (.int v1), some (.int v2), some (.int (Int32.ofInt 59))]) rfl rfl rfl rfl ?_
        exact k
      · have k := k.1 q_
        refine sp_bipush 60 rfl rfl ?_
        refine sp_I (y := Int32.ofInt 9) rfl ?_
        refine sp_goto rfl ?_
        refine hs_istore_n 66 (L2 := [some (.ref 3), some (.int v1), some (.int v2), some (.int (Int32.ofInt 9))]) rfl rfl rfl rfl ?_
        exact k
    · have k := k.1 q_
      refine sp_bipush 48 rfl rfl ?_
      refine sp_I (y := Int32.ofInt 99) rfl ?_
      refine sp_goto rfl ?_
      refine hs_istore_n 66 (L2 := [some (.ref 3), some (.int v1), some (.int v2), some (.int (Int32.ofInt 99))]) rfl rfl rfl rfl ?_
      exact k
  · have k := k.1 q_
    refine sp_bipush 36 rfl rfl ?_
    refine sp_I (y := Int32.ofInt 60) rfl ?_
    refine sp_goto rfl ?_
    refine hs_istore_n 66 (L2 := [some (.ref 3), some (.int v1), some (.int v2), some (.int (Int32.ofInt 60))]) rfl rfl rfl rfl ?_
    exact k
theorem sg_X7_readSetting_66 {SL : Nat} {xs : Nat → Int32} {d : Nat} {p s q : Nat} {Q : Option Value → mm_H → Prop} {v1 : Int32} {v2 : Int32} {v3 : Int32} {I : Nat → Nat → Int32} {J : Nat → Nat → Int64} (h_q : isP q) (k : (mm_s SL xs (d + 3) 78 [.ref 3, .int v2, .int v3] (hp p s q I J) (fun r_ h_ => ∃ x1 I1 J1, r_ = some (.int x1) ∧ h_ = hp p s q I1 J1 ∧ ((x1 = Int32.ofInt 0 → Q (some (.int (Int32.ofInt 0))) (hp p s q I1 J1)) ∧ (¬ (x1 = Int32.ofInt 0) → (mm_s SL xs (d + 3) 52 [.ref q, .int v1, .int (I1 4 4)] (hp p s q I1 J1) (fun r_ h_ => ∃ I2 J2, r_ = none ∧ h_ = hp p s q I2 J2 ∧ (mm_s SL xs (d + 3) 105 [.ref 4] (hp p s q I2 J2) (fun r_ h_ => ∃ I3 J3, r_ = none ∧ h_ = hp p s q I3 J3 ∧ Q (some (.int (Int32.ofInt 1))) (hp p s q I3 J3)))))))))) : w_X7_readSetting_66 SL xs d p s q Q v1 v2 v3 I J := by
  unfold w_X7_readSetting_66
  refine sp_aload_n 67 rfl rfl rfl ?_
  refine sp_iload_n 68 rfl rfl rfl ?_
  refine sp_iload_n 69 rfl rfl rfl ?_
  refine sc_V 72 rfl rfl rfl rfl rfl (Nat.le_refl _) (Nat.le_refl _) rfl ?_
  refine mm_s_mono _ _ _ _ _ _ ?_ k
  rintro r_ h_ ⟨x1, I1, J1, rfl, rfl, k⟩
  refine hs_S (st2 := [.int x1]) rfl ?_
  refine sp_if_ne 75 rfl rfl (fun q_ => ?_) (fun q_ => ?_)
  · have k := k.2 q_
    refine sp_aload_n 78 rfl rfl rfl ?_
    refine hq_getR 81 rfl rfl rfl rfl ?_
    refine sp_iload_n 82 rfl rfl rfl ?_
    refine sp_aload_n 83 rfl rfl rfl ?_
    refine hq_getR 86 rfl rfl rfl rfl ?_
    refine hq_getI 89 rfl rfl rfl ?_
    refine sc_V 92 rfl rfl (kP0 h_q) rfl rfl (Nat.le_refl _) (Nat.le_refl _) rfl ?_
    refine mm_s_mono _ _ _ _ _ _ ?_ k
    rintro r_ h_ ⟨I2, J2, rfl, rfl, k⟩
    refine hs_S (st2 := []) rfl ?_
    refine sp_aload_n 93 rfl rfl rfl ?_
    refine hq_getR 96 rfl rfl rfl rfl ?_
    refine sc_V 99 rfl rfl rfl rfl rfl (Nat.le_refl _) (Nat.le_refl _) rfl ?_
    refine mm_s_mono _ _ _ _ _ _ ?_ k
    rintro r_ h_ ⟨I3, J3, rfl, rfl, k⟩
    refine hs_S (st2 := []) rfl ?_
    refine sp_iconst 100 rfl rfl ?_
    exact st_zret rfl rfl (by decide) (Nat.le_refl _) (Nat.le_refl _) k
  · have k := k.1 q_
    refine sp_iconst 76 rfl rfl ?_
    exact st_zret rfl rfl (by decide) (Nat.le_refl _) (Nat.le_refl _) k
def w_X7_readRhyme_19 (SL : Nat) (xs : Nat → Int32) (d : Nat) (p s q : Nat) (Q : Option Value → mm_H → Prop) (v1 : Int32) (I : Nat → Nat → Int32) (J : Nat → Nat → Int64) : Prop := mm_w SL xs (mm_s SL xs (d + 3)) mm_am kX7_readRhyme 0 0 (some .boolean) Q 19 [some (.ref 3), some (.int v1)] [] (hp p s q I J) 0 0
theorem sg_X7_readRhyme {SL : Nat} {xs : Nat → Int32} {d : Nat} {p s q : Nat} {Q : Option Value → mm_H → Prop}  {I : Nat → Nat → Int32} {J : Nat → Nat → Int64}  (k : (((I 4 2) = (Int32.ofInt 3) → w_X7_readRhyme_19 SL xs d p s q Q (Int32.ofInt 0) I J) ∧ (¬ ((I 4 2) = (Int32.ofInt 3)) → (mm_s SL xs (d + 3) 74 [.ref 3, .int (Int32.ofInt 2)] (hp p s q I J) (fun r_ h_ => ∃ x1 I1 J1, r_ = some (.int x1) ∧ h_ = hp p s q I1 J1 ∧ ((x1 = 0 ∨ x1 = 1) ∧ Q (some (.int x1)) (hp p s q I1 J1))))))) : mm_s SL xs (d + 4) 81 [.ref 3] (hp p s q I J) Q := by
  refine e_X7_readRhyme rfl ?_
  refine hs_L (L2 := [some (.ref 3), none]) rfl ?_
  refine sp_aload_n 1 rfl rfl rfl ?_
  refine hq_getR 4 rfl rfl rfl rfl ?_
  refine hq_getI 7 rfl rfl rfl ?_
  refine sp_iconst 8 rfl rfl ?_
  refine sp_ic_eq 11 rfl rfl (fun q_ => ?_) (fun q_ => ?_)
  · have k := k.1 q_
    refine sp_iconst 18 rfl rfl ?_
    refine hs_istore_n 19 (L2 := [some (.ref 3), some (.int (Int32.ofInt 0))]) rfl rfl rfl rfl ?_
    exact k
  · have k := k.2 q_
    refine sp_aload_n 12 rfl rfl rfl ?_
    refine sp_iconst 13 rfl rfl ?_
    refine sc_V 16 rfl rfl rfl rfl rfl (Nat.le_refl _) (Nat.le_refl _) rfl ?_
    refine mm_s_mono _ _ _ _ _ _ ?_ k
    rintro r_ h_ ⟨x1, I1, J1, rfl, rfl, k⟩
    refine hs_S (st2 := [.int x1]) rfl ?_
    exact st_zret rfl rfl k.1 (Nat.le_refl _) (Nat.le_refl _) k.2
theorem sg_X7_readRhyme_19 {SL : Nat} {xs : Nat → Int32} {d : Nat} {p s q : Nat} {Q : Option Value → mm_H → Prop} {v1 : Int32} {I : Nat → Nat → Int32} {J : Nat → Nat → Int64} (h_q : isP q) (k : (((Int32.ofInt 24) ≤ v1 → Q (some (.int (Int32.ofInt 1))) (hp p s q I J)) ∧ (¬ ((Int32.ofInt 24) ≤ v1) → (((I 4 2) = (Int32.ofInt 3) → (mm_s SL xs (d + 3) 105 [.ref 4] (hp p s q (mm_u (mm_u I q 7 ((I q 7) + (Int32.ofInt 1))) q 8 ((I q 8) + ((mm_u I q 7 ((I q 7) + (Int32.ofInt 1))) 4 6))) J) (fun r_ h_ => ∃ I1 J1, r_ = none ∧ h_ = hp p s q I1 J1 ∧ w_X7_readRhyme_19 SL xs d p s q Q (v1 + Int32.ofInt 1) I1 J1))) ∧ (¬ ((I 4 2) = (Int32.ofInt 3)) → Q (some (.int (Int32.ofInt 1))) (hp p s q I J)))))) : w_X7_readRhyme_19 SL xs d p s q Q v1 I J := by
  unfold w_X7_readRhyme_19
  refine sp_iload_n 20 rfl rfl rfl ?_
  refine sp_bipush 22 rfl rfl ?_
  refine sp_I (y := Int32.ofInt 24) rfl ?_
  refine sp_ic_ge 25 rfl rfl (fun q_ => ?_) (fun q_ => ?_)
  · have k := k.1 q_
    refine sp_iconst 82 rfl rfl ?_
    exact st_zret rfl rfl (by decide) (Nat.le_refl _) (Nat.le_refl _) k
  · have k := k.2 q_
    refine sp_aload_n 26 rfl rfl rfl ?_
    refine hq_getR 29 rfl rfl rfl rfl ?_
    refine hq_getI 32 rfl rfl rfl ?_
    refine sp_iconst 33 rfl rfl ?_
    refine sp_ic_ne 36 rfl rfl (fun q_ => ?_) (fun q_ => ?_)
    · have k := k.2 q_
      refine sp_iconst 82 rfl rfl ?_
      exact st_zret rfl rfl (by decide) (Nat.le_refl _) (Nat.le_refl _) k
    · have k := k.1 q_
      refine sp_aload_n 37 rfl rfl rfl ?_
      refine hq_getR 40 rfl rfl rfl rfl ?_
      refine sp_dup 41 rfl rfl rfl ?_
      refine hq_getI 44 rfl (kP0 h_q) rfl ?_
      refine sp_iconst 45 rfl rfl ?_
      refine sp_iadd 46 rfl rfl ?_
      refine hq_putI 49 rfl (kP0 h_q) rfl ?_
      refine sp_aload_n 50 rfl rfl rfl ?_
      refine hq_getR 53 rfl rfl rfl rfl ?_
      refine sp_dup 54 rfl rfl rfl ?_
      refine hq_getI 57 rfl (kP0 h_q) rfl ?_
      refine sp_I (y := (I q 8)) (by simp [mm_u]) ?_
      refine sp_aload_n 58 rfl rfl rfl ?_
      refine hq_getR 61 rfl rfl rfl rfl ?_
      refine hq_getI 64 rfl rfl rfl ?_
      refine sp_iadd 65 rfl rfl ?_
      refine hq_putI 68 rfl (kP0 h_q) rfl ?_
      refine sp_aload_n 69 rfl rfl rfl ?_
      refine hq_getR 72 rfl rfl rfl rfl ?_
      refine sc_V 75 rfl rfl rfl rfl rfl (Nat.le_refl _) (Nat.le_refl _) rfl ?_
      refine mm_s_mono _ _ _ _ _ _ ?_ k
      rintro r_ h_ ⟨I1, J1, rfl, rfl, k⟩
      refine hs_S (st2 := []) rfl ?_
      refine hs_iinc 78 (L2 := [some (.ref 3), some (.int (v1 + Int32.ofInt 1))]) rfl rfl rfl rfl rfl ?_
      refine sp_goto rfl ?_
      exact k
def w_X8_tallyOrder_11 (SL : Nat) (xs : Nat → Int32) (d : Nat) (p s q : Nat) (Q : Option Value → mm_H → Prop) (v1 : Int32) (v2 : Int32) (v3 : Int64) (v5 : Int32) (v6 : Int32) (I : Nat → Nat → Int32) (J : Nat → Nat → Int64) : Prop := mm_w SL xs (mm_s SL xs (d + 3)) mm_am kX8_tallyOrder 0 0 none Q 11 [some (.ref 33), some (.int v1), some (.int v2), some (.long v3), none, some (.int v5), some (.int v6), none] [] (hp p s q I J) 0 0
theorem sg_X8_tallyOrder {SL : Nat} {xs : Nat → Int32} {d : Nat} {p s q : Nat} {Q : Option Value → mm_H → Prop} {a0 : Int32} {a1 : Int32} {I : Nat → Nat → Int32} {J : Nat → Nat → Int64}  (k : w_X8_tallyOrder_11 SL xs d p s q Q a0 a1 (sx_X6_all a0) (Int32.ofInt 0) (Int32.ofInt 0) I J) : mm_s SL xs (d + 4) 100 [.ref 33, .int a0, .int a1] (hp p s q I J) Q := by
  refine e_X8_tallyOrder rfl ?_
  refine hs_L (L2 := [some (.ref 33), some (.int a0), some (.int a1), none, none, none, none, none]) rfl ?_
  refine sp_iload_n 1 rfl rfl rfl ?_
  refine sc_S 4 rfl rfl rfl rfl (Nat.le_refl _) (Nat.le_refl _) rfl ?_
  refine cx_X6_all ?_
  refine hs_S (st2 := [.long (sx_X6_all a0)]) rfl ?_
  refine hs_lstore_n 5 (L2 := [some (.ref 33), some (.int a0), some (.int a1), some (.long (sx_X6_all a0)), none, none, none, none]) rfl rfl rfl rfl ?_
  refine sp_iconst 6 rfl rfl ?_
  refine hs_istore 8 (L2 := [some (.ref 33), some (.int a0), some (.int a1), some (.long (sx_X6_all a0)), none, some (.int (Int32.ofInt 0)), none, none]) rfl rfl rfl rfl ?_
  refine sp_iconst 9 rfl rfl ?_
  refine hs_istore 11 (L2 := [some (.ref 33), some (.int a0), some (.int a1), some (.long (sx_X6_all a0)), none, some (.int (Int32.ofInt 0)), some (.int (Int32.ofInt 0)), none]) rfl rfl rfl rfl ?_
  exact k
theorem sg_X8_tallyOrder_11 {SL : Nat} {xs : Nat → Int32} {d : Nat} {p s q : Nat} {Q : Option Value → mm_H → Prop} {v1 : Int32} {v2 : Int32} {v3 : Int64} {v5 : Int32} {v6 : Int32} {I : Nat → Nat → Int32} {J : Nat → Nat → Int64}  (k : ((v1 ≤ v6 → Q none (hp p s q I J)) ∧ (¬ (v1 ≤ v6) → (((Int32.ofInt 60) ≤ v6 → Q none (hp p s q I J)) ∧ (¬ ((Int32.ofInt 60) ≤ v6) → (¬ (v1 - v6) = 0 ∧ (mm_s SL xs (d + 3) 69 [.long v3, .int (((v5 + v2) - (Int32.ofInt 1)) - ((v5 + v2) - (Int32.ofInt 1)) / (v1 - v6) * (v1 - v6))] (hp p s q I J) (fun r_ h_ => ∃ x1 I1 J1, r_ = some (.int x1) ∧ h_ = hp p s q I1 J1 ∧ ((x1 < Int32.ofInt 0 → w_X8_tallyOrder_11 SL xs d p s q Q v1 v2 v3 (((v5 + v2) - (Int32.ofInt 1)) - ((v5 + v2) - (Int32.ofInt 1)) / (v1 - v6) * (v1 - v6)) (v6 + Int32.ofInt 1) I1 J1) ∧ (¬ (x1 < Int32.ofInt 0) → (((Int32.ofInt 60) ≤ x1 → w_X8_tallyOrder_11 SL xs d p s q Q v1 v2 v3 (((v5 + v2) - (Int32.ofInt 1)) - ((v5 + v2) - (Int32.ofInt 1)) / (v1 - v6) * (v1 - v6)) (v6 + Int32.ofInt 1) I1 J1) ∧ (¬ ((Int32.ofInt 60) ≤ x1) → (vp_in ((v6 * (Int32.ofInt 60)) + x1) 3600 ∧ w_X8_tallyOrder_11 SL xs d p s q Q v1 v2 (v3 &&& ((sx_X6_bit x1) ^^^ (Int64.ofInt (-1)))) (((v5 + v2) - (Int32.ofInt 1)) - ((v5 + v2) - (Int32.ofInt 1)) / (v1 - v6) * (v1 - v6)) (v6 + Int32.ofInt 1) (mm_u I1 38 ((((v6 * (Int32.ofInt 60)) + x1)).toNatClampNeg) ((I1 38 ((((v6 * (Int32.ofInt 60)) + x1)).toNatClampNeg)) + (Int32.ofInt 1))) J1))))))))))))) : w_X8_tallyOrder_11 SL xs d p s q Q v1 v2 v3 v5 v6 I J := by
  unfold w_X8_tallyOrder_11
  refine sp_iload 13 rfl rfl rfl ?_
  refine sp_iload_n 14 rfl rfl rfl ?_
  refine sp_ic_ge 17 rfl rfl (fun q_ => ?_) (fun q_ => ?_)
  · have k := k.1 q_
    exact st_vret rfl rfl (Nat.le_refl _) (Nat.le_refl _) k
  · have k := k.2 q_
    refine sp_iload 19 rfl rfl rfl ?_
    refine sp_bipush 21 rfl rfl ?_
    refine sp_I (y := Int32.ofInt 60) rfl ?_
    refine sp_ic_ge 24 rfl rfl (fun q_ => ?_) (fun q_ => ?_)
    · have k := k.1 q_
      exact st_vret rfl rfl (Nat.le_refl _) (Nat.le_refl _) k
    · have k := k.2 q_
      refine sp_iload 26 rfl rfl rfl ?_
      refine sp_iload_n 27 rfl rfl rfl ?_
      refine sp_iadd 28 rfl rfl ?_
      refine sp_iconst 29 rfl rfl ?_
      refine sp_isub 30 rfl rfl ?_
      refine sp_iload_n 31 rfl rfl rfl ?_
      refine sp_iload 33 rfl rfl rfl ?_
      refine sp_isub 34 rfl rfl ?_
      have n1_ := k.1
      have k := k.2
      refine sp_irem 35 rfl n1_ rfl ?_
      refine hs_istore 37 (L2 := [some (.ref 33), some (.int v1), some (.int v2), some (.long v3), none, some (.int (((v5 + v2) - (Int32.ofInt 1)) - ((v5 + v2) - (Int32.ofInt 1)) / (v1 - v6) * (v1 - v6))), some (.int v6), none]) rfl rfl rfl rfl ?_
      refine sp_lload_n 38 rfl rfl rfl ?_
      refine sp_iload 40 rfl rfl rfl ?_
      refine sc_S 43 rfl rfl rfl rfl (Nat.le_refl _) (Nat.le_refl _) rfl ?_
      refine mm_s_mono _ _ _ _ _ _ ?_ k
      rintro r_ h_ ⟨x1, I1, J1, rfl, rfl, k⟩
      refine hs_S (st2 := [.int x1]) rfl ?_
      refine hs_istore 45 (L2 := [some (.ref 33), some (.int v1), some (.int v2), some (.long v3), none, some (.int (((v5 + v2) - (Int32.ofInt 1)) - ((v5 + v2) - (Int32.ofInt 1)) / (v1 - v6) * (v1 - v6))), some (.int v6), some (.int x1)]) rfl rfl rfl rfl ?_
      refine sp_iload 47 rfl rfl rfl ?_
      refine sp_if_lt 50 rfl rfl (fun q_ => ?_) (fun q_ => ?_)
      · have k := k.1 q_
        refine hs_iinc 89 (L2 := [some (.ref 33), some (.int v1), some (.int v2), some (.long v3), none, some (.int (((v5 + v2) - (Int32.ofInt 1)) - ((v5 + v2) - (Int32.ofInt 1)) / (v1 - v6) * (v1 - v6))), some (.int (v6 + Int32.ofInt 1)), some (.int x1)]) rfl rfl rfl rfl rfl ?_
        refine sp_goto rfl ?_
        refine st_wk (L1 := [some (.ref 33), some (.int v1), some (.int v2), some (.long v3), none, some (.int (((v5 + v2) - (Int32.ofInt 1)) - ((v5 + v2) - (Int32.ofInt 1)) / (v1 - v6) * (v1 - v6))), some (.int (v6 + Int32.ofInt 1)), none]) ⟨.inr rfl, .inr rfl, .inr rfl, .inr rfl, .inl rfl, .inr rfl, .inr rfl, .inl rfl, trivial⟩ ?_
        exact k
      · have k := k.2 q_
        refine sp_iload 52 rfl rfl rfl ?_
        refine sp_bipush 54 rfl rfl ?_
        refine sp_I (y := Int32.ofInt 60) rfl ?_
        refine sp_ic_ge 57 rfl rfl (fun q_ => ?_) (fun q_ => ?_)
        · have k := k.1 q_
          refine hs_iinc 89 (L2 := [some (.ref 33), some (.int v1), some (.int v2), some (.long v3), none, some (.int (((v5 + v2) - (Int32.ofInt 1)) - ((v5 + v2) - (Int32.ofInt 1)) / (v1 - v6) * (v1 - v6))), some (.int (v6 + Int32.ofInt 1)), some (.int x1)]) rfl rfl rfl rfl rfl ?_
          refine sp_goto rfl ?_
          refine st_wk (L1 := [some (.ref 33), some (.int v1), some (.int v2), some (.long v3), none, some (.int (((v5 + v2) - (Int32.ofInt 1)) - ((v5 + v2) - (Int32.ofInt 1)) / (v1 - v6) * (v1 - v6))), some (.int (v6 + Int32.ofInt 1)), none]) ⟨.inr rfl, .inr rfl, .inr rfl, .inr rfl, .inl rfl, .inr rfl, .inr rfl, .inl rfl, trivial⟩ ?_
          exact k
        · have k := k.2 q_
          refine sp_aload_n 58 rfl rfl rfl ?_
          refine hq_getR 61 rfl rfl rfl rfl ?_
          refine sp_iload 63 rfl rfl rfl ?_
          refine sp_bipush 65 rfl rfl ?_
          refine sp_I (y := Int32.ofInt 60) rfl ?_
          refine sp_imul 66 rfl rfl ?_
          refine sp_iload 68 rfl rfl rfl ?_
          refine sp_iadd 69 rfl rfl ?_
          refine sp_dup2 70 rfl rfl rfl rfl ?_
          have n2_ := k.1
          have k := k.2
          refine hq_iald 71 rfl rfl n2_ rfl ?_
          refine sp_iconst 72 rfl rfl ?_
          refine sp_iadd 73 rfl rfl ?_
          refine hq_iast 74 rfl rfl n2_ rfl ?_
          refine sp_lload_n 75 rfl rfl rfl ?_
          refine sp_iload 77 rfl rfl rfl ?_
          refine sc_S 80 rfl rfl rfl rfl (Nat.le_refl _) (Nat.le_refl _) rfl ?_
          refine cx_X6_bit ?_
          refine hs_S (st2 := [.long (sx_X6_bit x1), .long v3]) rfl ?_
          refine sp_ldc2 83 rfl rfl ?_
          refine sp_lxor 84 rfl rfl ?_
          refine sp_land 85 rfl rfl ?_
          refine hs_lstore_n 86 (L2 := [some (.ref 33), some (.int v1), some (.int v2), some (.long (v3 &&& ((sx_X6_bit x1) ^^^ (Int64.ofInt (-1))))), none, some (.int (((v5 + v2) - (Int32.ofInt 1)) - ((v5 + v2) - (Int32.ofInt 1)) / (v1 - v6) * (v1 - v6))), some (.int v6), some (.int x1)]) rfl rfl rfl rfl ?_
          refine hs_iinc 89 (L2 := [some (.ref 33), some (.int v1), some (.int v2), some (.long (v3 &&& ((sx_X6_bit x1) ^^^ (Int64.ofInt (-1))))), none, some (.int (((v5 + v2) - (Int32.ofInt 1)) - ((v5 + v2) - (Int32.ofInt 1)) / (v1 - v6) * (v1 - v6))), some (.int (v6 + Int32.ofInt 1)), some (.int x1)]) rfl rfl rfl rfl rfl ?_
          refine sp_goto rfl ?_
          refine st_wk (L1 := [some (.ref 33), some (.int v1), some (.int v2), some (.long (v3 &&& ((sx_X6_bit x1) ^^^ (Int64.ofInt (-1))))), none, some (.int (((v5 + v2) - (Int32.ofInt 1)) - ((v5 + v2) - (Int32.ofInt 1)) / (v1 - v6) * (v1 - v6))), some (.int (v6 + Int32.ofInt 1)), none]) ⟨.inr rfl, .inr rfl, .inr rfl, .inr rfl, .inl rfl, .inr rfl, .inr rfl, .inl rfl, trivial⟩ ?_
          exact k
theorem sg_X9_rewind {SL : Nat} {xs : Nat → Int32} {d : Nat} {p s q : Nat} {Q : Option Value → mm_H → Prop}  {I : Nat → Nat → Int32} {J : Nat → Nat → Int64}  (k : (mm_s SL xs (d + 3) 105 [.ref 4] (hp p s q (mm_u I 4 7 (Int32.ofInt 0)) J) (fun r_ h_ => ∃ I1 J1, r_ = none ∧ h_ = hp p s q I1 J1 ∧ Q none (hp p s q I1 J1)))) : mm_s SL xs (d + 4) 104 [.ref 4] (hp p s q I J) Q := by
  refine e_X9_rewind rfl ?_
  refine hs_L (L2 := [some (.ref 4)]) rfl ?_
  refine sp_aload_n 1 rfl rfl rfl ?_
  refine sp_iconst 2 rfl rfl ?_
  refine hq_putI 5 rfl rfl rfl ?_
  refine sp_aload_n 6 rfl rfl rfl ?_
  refine sc_V 9 rfl rfl rfl rfl rfl (Nat.le_refl _) (Nat.le_refl _) rfl ?_
  refine mm_s_mono _ _ _ _ _ _ ?_ k
  rintro r_ h_ ⟨I1, J1, rfl, rfl, k⟩
  refine hs_S (st2 := []) rfl ?_
  exact st_vret rfl rfl (Nat.le_refl _) (Nat.le_refl _) k
