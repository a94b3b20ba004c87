theorem sg_X11_toldNumber {SL : Nat} {xs : Nat → Int32} {d : Nat} {p s q : Nat} {Q : Option Value → mm_H → Prop} {a0 : Int32} {a1 : Int32} {I : Nat → Nat → Int32} {J : Nat → Nat → Int64}  (k : (((I 65 2) ≤ Int32.ofInt 0 → (((I 65 6) = (Int32.ofInt 2) → (((I 65 8) < a0 → (mm_s SL xs (d + 2) 173 [.ref 65, .int (Int32.ofInt 4)] (hp p s q I J) (fun r_ h_ => ∃ I1 J1, r_ = none ∧ h_ = hp p s q I1 J1 ∧ (((I1 65 2) = Int32.ofInt 0 → (mm_s SL xs (d + 2) 172 [.ref 65] (hp p s q I1 J1) (fun r_ h_ => ∃ I2 J2, r_ = none ∧ h_ = hp p s q I2 J2 ∧ Q (some (.int (I1 65 8))) (hp p s q I2 J2)))) ∧ (¬ ((I1 65 2) = Int32.ofInt 0) → Q (some (.int (I1 65 8))) (hp p s q I1 J1)))))) ∧ (¬ ((I 65 8) < a0) → (((I 65 8) ≤ a1 → (((I 65 2) = Int32.ofInt 0 → (mm_s SL xs (d + 2) 172 [.ref 65] (hp p s q I J) (fun r_ h_ => ∃ I3 J3, r_ = none ∧ h_ = hp p s q I3 J3 ∧ Q (some (.int (I 65 8))) (hp p s q I3 J3)))) ∧ (¬ ((I 65 2) = Int32.ofInt 0) → Q (some (.int (I 65 8))) (hp p s q I J)))) ∧ (¬ ((I 65 8) ≤ a1) → (mm_s SL xs (d + 2) 173 [.ref 65, .int (Int32.ofInt 4)] (hp p s q I J) (fun r_ h_ => ∃ I4 J4, r_ = none ∧ h_ = hp p s q I4 J4 ∧ (((I4 65 2) = Int32.ofInt 0 → (mm_s SL xs (d + 2) 172 [.ref 65] (hp p s q I4 J4) (fun r_ h_ => ∃ I5 J5, r_ = none ∧ h_ = hp p s q I5 J5 ∧ Q (some (.int (I4 65 8))) (hp p s q I5 J5)))) ∧ (¬ ((I4 65 2) = Int32.ofInt 0) → Q (some (.int (I4 65 8))) (hp p s q I4 J4)))))))))) ∧ (¬ ((I 65 6) = (Int32.ofInt 2)) → (mm_s SL xs (d + 2) 173 [.ref 65, .int (Int32.ofInt 2)] (hp p s q I J) (fun r_ h_ => ∃ I6 J6, r_ = none ∧ h_ = hp p s q I6 J6 ∧ (((I6 65 2) = Int32.ofInt 0 → (mm_s SL xs (d + 2) 172 [.ref 65] (hp p s q I6 J6) (fun r_ h_ => ∃ I7 J7, r_ = none ∧ h_ = hp p s q I7 J7 ∧ Q (some (.int (I6 65 8))) (hp p s q I7 J7)))) ∧ (¬ ((I6 65 2) = Int32.ofInt 0) → Q (some (.int (I6 65 8))) (hp p s q I6 J6)))))))) ∧ (¬ ((I 65 2) ≤ Int32.ofInt 0) → Q (some (.int (Int32.ofInt 0))) (hp p s q I J)))) : mm_s SL xs (d + 3) 177 [.ref 65, .int a0, .int a1] (hp p s q I J) Q := by
  refine e_X11_toldNumber rfl ?_
  refine hs_L (L2 := [some (.ref 65), some (.int a0), some (.int a1), none]) rfl ?_
  refine sp_aload_n 1 rfl rfl rfl ?_
  refine hq_getI 4 rfl rfl rfl ?_
  refine sp_if_le 7 rfl rfl (fun q_ => ?_) (fun q_ => ?_)
  · have k := k.1 q_
    refine sp_aload_n 10 rfl rfl rfl ?_
    refine hq_getI 13 rfl rfl rfl ?_
    refine sp_iconst 14 rfl rfl ?_
    refine sp_ic_eq 17 rfl rfl (fun q_ => ?_) (fun q_ => ?_)
    · have k := k.1 q_
      refine sp_aload_n 26 rfl rfl rfl ?_
      refine hq_getI 29 rfl rfl rfl ?_
      refine sp_iload_n 30 rfl rfl rfl ?_
      refine sp_ic_lt 33 rfl rfl (fun q_ => ?_) (fun q_ => ?_)
      · have k := k.1 q_
        refine sp_aload_n 42 rfl rfl rfl ?_
        refine sp_iconst 43 rfl rfl ?_
        refine sc_V 46 rfl rfl rfl rfl rfl (Nat.le_refl _) (Nat.le_refl _) rfl ?_
        refine mm_s_mono _ _ _ _ _ _ ?_ k
        rintro r_ h_ ⟨I1, J1, rfl, rfl, k⟩
        refine hs_S (st2 := []) rfl ?_
        refine sp_aload_n 47 rfl rfl rfl ?_
        refine hq_getI 50 rfl rfl rfl ?_
        refine hs_istore_n 51 (L2 := [some (.ref 65), some (.int a0), some (.int a1), some (.int (I1 65 8))]) rfl rfl rfl rfl ?_
        refine sp_aload_n 52 rfl rfl rfl ?_
        refine hq_getI 55 rfl rfl rfl ?_
        refine sp_if_ne 58 rfl rfl (fun q_ => ?_) (fun q_ => ?_)
        · have k := k.2 q_
          refine sp_iload_n 63 rfl rfl rfl ?_
          exact st_iret rfl rfl (Nat.le_refl _) (Nat.le_refl _) k
        · have k := k.1 q_
          refine sp_aload_n 59 rfl rfl rfl ?_
          refine sc_V 62 rfl rfl rfl rfl rfl (Nat.le_refl _) (Nat.le_refl _) rfl ?_
          refine mm_s_mono _ _ _ _ _ _ ?_ k
          rintro r_ h_ ⟨I2, J2, rfl, rfl, k⟩
          refine hs_S (st2 := []) rfl ?_
          refine sp_iload_n 63 rfl rfl rfl ?_
          exact st_iret rfl rfl (Nat.le_refl _) (Nat.le_refl _) k
      · have k := k.2 q_
        refine sp_aload_n 34 rfl rfl rfl ?_
        refine hq_getI 37 rfl rfl rfl ?_
        refine sp_iload_n 38 rfl rfl rfl ?_
        refine sp_ic_le 41 rfl rfl (fun q_ => ?_) (fun q_ => ?_)
        · have k := k.1 q_
          refine sp_aload_n 47 rfl rfl rfl ?_
          refine hq_getI 50 rfl rfl rfl ?_
          refine hs_istore_n 51 (L2 := [some (.ref 65), some (.int a0), some (.int a1), some (.int (I 65 8))]) rfl rfl rfl rfl ?_
          refine sp_aload_n 52 rfl rfl rfl ?_
          refine hq_getI 55 rfl rfl rfl ?_
          refine sp_if_ne 58 rfl rfl (fun q_ => ?_) (fun q_ => ?_)
          · have k := k.2 q_
            refine sp_iload_n 63 rfl rfl rfl ?_
            exact st_iret rfl rfl (Nat.le_refl _) (Nat.le_refl _) k
          · have k := k.1 q_
            refine sp_aload_n 59 rfl rfl rfl ?_
            refine sc_V 62 rfl rfl rfl rfl rfl (Nat.le_refl _) (Nat.le_refl _) rfl ?_
            refine mm_s_mono _ _ _ _ _ _ ?_ k
            rintro r_ h_ ⟨I3, J3, rfl, rfl, k⟩
            refine hs_S (st2 := []) rfl ?_
            refine sp_iload_n 63 rfl rfl rfl ?_
            exact st_iret rfl rfl (Nat.le_refl _) (Nat.le_refl _) k
        · have k := k.2 q_
          refine sp_aload_n 42 rfl rfl rfl ?_
          refine sp_iconst 43 rfl rfl ?_
          refine sc_V 46 rfl rfl rfl rfl rfl (Nat.le_refl _) (Nat.le_refl _) rfl ?_
          refine mm_s_mono _ _ _ _ _ _ ?_ k
          rintro r_ h_ ⟨I4, J4, rfl, rfl, k⟩
          refine hs_S (st2 := []) rfl ?_
          refine sp_aload_n 47 rfl rfl rfl ?_
          refine hq_getI 50 rfl rfl rfl ?_
          refine hs_istore_n 51 (L2 := [some (.ref 65), some (.int a0), some (.int a1), some (.int (I4 65 8))]) rfl rfl rfl rfl ?_
          refine sp_aload_n 52 rfl rfl rfl ?_
          refine hq_getI 55 rfl rfl rfl ?_
          refine sp_if_ne 58 rfl rfl (fun q_ => ?_) (fun q_ => ?_)
          · have k := k.2 q_
            refine sp_iload_n 63 rfl rfl rfl ?_
            exact st_iret rfl rfl (Nat.le_refl _) (Nat.le_refl _) k
          · have k := k.1 q_
            refine sp_aload_n 59 rfl rfl rfl ?_
            refine sc_V 62 rfl rfl rfl rfl rfl (Nat.le_refl _) (Nat.le_refl _) rfl ?_
            refine mm_s_mono _ _ _ _ _ _ ?_ k
            rintro r_ h_ ⟨I5, J5, rfl, rfl, k⟩
            refine hs_S (st2 := []) rfl ?_
            refine sp_iload_n 63 rfl rfl rfl ?_
            exact st_iret rfl rfl (Nat.le_refl _) (Nat.le_refl _) k
    · have k := k.2 q_
      refine sp_aload_n 18 rfl rfl rfl ?_
      refine sp_iconst 19 rfl rfl ?_
      refine sc_V 22 rfl rfl rfl rfl rfl (Nat.le_refl _) (Nat.le_refl _) rfl ?_
      refine mm_s_mono _ _ _ _ _ _ ?_ k
      rintro r_ h_ ⟨I6, J6, rfl, rfl, k⟩
      refine hs_S (st2 := []) rfl ?_
      refine sp_goto rfl ?_
      refine sp_aload_n 47 rfl rfl rfl ?_
      refine hq_getI 50 rfl rfl rfl ?_
      refine hs_istore_n 51 (L2 := [some (.ref 65), some (.int a0), some (.int a1), some (.int (I6 65 8))]) rfl rfl rfl rfl ?_
      refine sp_aload_n 52 rfl rfl rfl ?_
      refine hq_getI 55 rfl rfl rfl ?_
      refine sp_if_ne 58 rfl rfl (fun q_ => ?_) (fun q_ => ?_)
      · have k := k.2 q_
        refine sp_iload_n 63 rfl rfl rfl ?_
        exact st_iret rfl rfl (Nat.le_refl _) (Nat.le_refl _) k
      · have k := k.1 q_
        refine sp_aload_n 59 rfl rfl rfl ?_
        refine sc_V 62 rfl rfl rfl rfl rfl (Nat.le_refl _) (Nat.le_refl _) rfl ?_
        refine mm_s_mono _ _ _ _ _ _ ?_ k
        rintro r_ h_ ⟨I7, J7, rfl, rfl, k⟩
        refine hs_S (st2 := []) rfl ?_
        refine sp_iload_n 63 rfl rfl rfl ?_
        exact st_iret rfl rfl (Nat.le_refl _) (Nat.le_refl _) k
  · have k := k.2 q_
    refine sp_iconst 8 rfl rfl ?_
    exact st_iret rfl rfl (Nat.le_refl _) (Nat.le_refl _) k
def w_X11_settle_0 (SL : Nat) (xs : Nat → Int32) (d : Nat) (p s q : Nat) (Q : Option Value → mm_H → Prop) (v1 : Int32) (I : Nat → Nat → Int32) (J : Nat → Nat → Int64) : Prop := mm_w SL xs (mm_s SL xs (d + 2)) mm_am kX11_settle 0 0 none Q 0 [some (.ref 65), some (.int v1)] [] (hp p s q I J) 0 0
theorem sg_X11_settle_0 {SL : Nat} {xs : Nat → Int32} {d : Nat} {p s q : Nat} {Q : Option Value → mm_H → Prop} {v1 : Int32} {I : Nat → Nat → Int32} {J : Nat → Nat → Int64}  (k : (mm_s SL xs (d + 2) 180 [.ref 65] (hp p s q I J) (fun r_ h_ => ∃ x1 I1 J1, r_ = some (.int x1) ∧ h_ = hp p s q I1 J1 ∧ ((x1 = (Int32.ofInt 40) → Q none (hp p s q I1 J1)) ∧ (¬ (x1 = (Int32.ofInt 40)) → (mm_s SL xs (d + 2) 180 [.ref 65] (hp p s q I1 J1) (fun r_ h_ => ∃ x2 I2 J2, r_ = some (.int x2) ∧ h_ = hp p s q I2 J2 ∧ (((sx_X11_rank x2) < v1 → Q none (hp p s q I2 J2)) ∧ (¬ ((sx_X11_rank x2) < v1) → (mm_s SL xs (d + 2) 182 [.ref 65] (hp p s q I2 J2) (fun r_ h_ => ∃ I3 J3, r_ = none ∧ h_ = hp p s q I3 J3 ∧ w_X11_settle_0 SL xs d p s q Q v1 I3 J3))))))))))) : w_X11_settle_0 SL xs d p s q Q v1 I J := by
  unfold w_X11_settle_0
  refine sp_aload_n 1 rfl rfl rfl ?_
  refine sc_V 4 rfl rfl rfl rfl rfl (Nat.le_refl _) (Nat.le_refl _) rfl ?_
  refine mm_s_mono _ _ _ _ _ _ ?_ k
  rintro r_ h_ ⟨x1, I1, J1, rfl, rfl, k⟩
  refine hs_S (st2 := [.int x1]) rfl ?_
  refine sp_bipush 6 rfl rfl ?_
  refine sp_I (y := Int32.ofInt 40) rfl ?_
  refine sp_ic_eq 9 rfl rfl (fun q_ => ?_) (fun q_ => ?_)
  · have k := k.1 q_
    exact st_vret rfl rfl (Nat.le_refl _) (Nat.le_refl _) k
  · have k := k.2 q_
    refine sp_aload_n 10 rfl rfl rfl ?_
    refine sc_V 13 rfl rfl rfl rfl rfl (Nat.le_refl _) (Nat.le_refl _) rfl ?_
    refine mm_s_mono _ _ _ _ _ _ ?_ k
    rintro r_ h_ ⟨x2, I2, J2, rfl, rfl, k⟩
    refine hs_S (st2 := [.int x2]) rfl ?_
    refine sc_S 16 rfl rfl rfl rfl (Nat.le_refl _) (Nat.le_refl _) rfl ?_
    refine cx_X11_rank ?_
    refine hs_S (st2 := [.int (sx_X11_rank x2)]) rfl ?_
    refine sp_iload_n 17 rfl rfl rfl ?_
    refine sp_ic_lt 20 rfl rfl (fun q_ => ?_) (fun q_ => ?_)
    · have k := k.1 q_
      exact st_vret rfl rfl (Nat.le_refl _) (Nat.le_refl _) k
    · have k := k.2 q_
      refine sp_aload_n 21 rfl rfl rfl ?_
      refine sc_V 24 rfl rfl rfl rfl rfl (Nat.le_refl _) (Nat.le_refl _) rfl ?_
      refine mm_s_mono _ _ _ _ _ _ ?_ k
      rintro r_ h_ ⟨I3, J3, rfl, rfl, k⟩
      refine hs_S (st2 := []) rfl ?_
      refine sp_goto rfl ?_
      exact k
def w_X11_operand_18 (SL : Nat) (xs : Nat → Int32) (d : Nat) (p s q : Nat) (Q : Option Value → mm_H → Prop) (v1 : Int32) (I : Nat → Nat → Int32) (J : Nat → Nat → Int64) : Prop := mm_w SL xs (mm_s SL xs (d + 2)) mm_am kX11_operand 0 0 (some .int) Q 18 [some (.ref 65), some (.int v1), none, none, none] [] (hp p s q I J) 0 0
def w_X11_operand_20 (SL : Nat) (xs : Nat → Int32) (d : Nat) (p s q : Nat) (Q : Option Value → mm_H → Prop) (v1 : Int32) (v2 : Int32) (I : Nat → Nat → Int32) (J : Nat → Nat → Int64) : Prop := mm_w SL xs (mm_s SL xs (d + 2)) mm_am kX11_operand 0 0 (some .int) Q 20 [some (.ref 65), some (.int v1), some (.int v2), none, none] [] (hp p s q I J) 0 0
def w_X11_operand_46 (SL : Nat) (xs : Nat → Int32) (d : Nat) (p s q : Nat) (Q : Option Value → mm_H → Prop) (v1 : Int32) (v2 : Int32) (v3 : Int32) (I : Nat → Nat → Int32) (J : Nat → Nat → Int64) : Prop := mm_w SL xs (mm_s SL xs (d + 2)) mm_am kX11_operand 0 0 (some .int) Q 46 [some (.ref 65), some (.int v1), some (.int v2), some (.int v3), none] [] (hp p s q I J) 0 0
def w_X11_operand_53 (SL : Nat) (xs : Nat → Int32) (d : Nat) (p s q : Nat) (Q : Option Value → mm_H → Prop) (v1 : Int32) (v2 : Int32) (v3 : Int32) (v4 : Int32) (I : Nat → Nat → Int32) (J : Nat → Nat → Int64) : Prop := mm_w SL xs (mm_s SL xs (d + 2)) mm_am kX11_operand 0 0 (some .int) Q 53 [some (.ref 65), some (.int v1), some (.int v2), some (.int v3), some (.int v4)] [] (hp p s q I J) 0 0
def w_X11_operand_62 (SL : Nat) (xs : Nat → Int32) (d : Nat) (p s q : Nat) (Q : Option Value → mm_H → Prop) (v1 : Int32) (v2 : Int32) (v3 : Int32) (v4 : Int32) (I : Nat → Nat → Int32) (J : Nat → Nat → Int64) : Prop := mm_w SL xs (mm_s SL xs (d + 2)) mm_am kX11_operand 0 0 (some .int) Q 62 [some (.ref 65), some (.int v1), some (.int v2), some (.int v3), some (.int v4)] [] (hp p s q I J) 0 0
def w_X11_operand_76 (SL : Nat) (xs : Nat → Int32) (d : Nat) (p s q : Nat) (Q : Option Value → mm_H → Prop) (v1 : Int32) (v2 : Int32) (v3 : Int32) (v4 : Int32) (I : Nat → Nat → Int32) (J : Nat → Nat → Int64) : Prop := mm_w SL xs (mm_s SL xs (d + 2)) mm_am kX11_operand 0 0 (some .int) Q 76 [some (.ref 65), some (.int v1), some (.int v2), some (.int v3), some (.int v4)] [] (hp p s q I J) 0 0
def w_X11_operand_89 (SL : Nat) (xs : Nat → Int32) (d : Nat) (p s q : Nat) (Q : Option Value → mm_H → Prop) (v1 : Int32) (v2 : Int32) (v3 : Int32) (v4 : Int32) (I : Nat → Nat → Int32) (J : Nat → Nat → Int64) : Prop := mm_w SL xs (mm_s SL xs (d + 2)) mm_am kX11_operand 0 0 (some .int) Q 89 [some (.ref 65), some (.int v1), some (.int v2), some (.int v3), some (.int v4)] [] (hp p s q I J) 0 0
def w_X11_operand_98 (SL : Nat) (xs : Nat → Int32) (d : Nat) (p s q : Nat) (Q : Option Value → mm_H → Prop) (v1 : Int32) (v2 : Int32) (v3 : Int32) (v4 : Int32) (I : Nat → Nat → Int32) (J : Nat → Nat → Int64) : Prop := mm_w SL xs (mm_s SL xs (d + 2)) mm_am kX11_operand 0 0 (some .int) Q 98 [some (.ref 65), some (.int v1), some (.int v2), some (.int v3), some (.int v4)] [] (hp p s q I J) 0 0
def w_X11_operand_103 (SL : Nat) (xs : Nat → Int32) (d : Nat) (p s q : Nat) (Q : Option Value → mm_H → Prop) (v1 : Int32) (v2 : Int32) (v3 : Int32) (v4 : Int32) (I : Nat → Nat → Int32) (J : Nat → Nat → Int64) : Prop := mm_w SL xs (mm_s SL xs (d + 2)) mm_am kX11_operand 0 0 (some .int) Q 103 [some (.ref 65), some (.int v1), some (.int v2), some (.int v3), some (.int v4)] [] (hp p s q I J) 0 0
def w_X11_operand_176 (SL : Nat) (xs : Nat → Int32) (d : Nat) (p s q : Nat) (Q : Option Value → mm_H → Prop) (v1 : Int32) (v2 : Int32) (v3 : Int32) (v4 : Int32) (I : Nat → Nat → Int32) (J : Nat → Nat → Int64) : Prop := mm_w SL xs (mm_s SL xs (d + 2)) mm_am kX11_operand 0 0 (some .int) Q 176 [some (.ref 65), some (.int v1), some (.int v2), some (.int v3), some (.int v4)] [] (hp p s q I J) 0 0
theorem sg_X11_operand {SL : Nat} {xs : Nat → Int32} {d : Nat} {p s q : Nat} {Q : Option Value → mm_H → Prop} {a0 : Int32} {I : Nat → Nat → Int32} {J : Nat → Nat → Int64}  (k : ((a0 = Int32.ofInt 0 → (((sy_X11_isWord (Int64.ofInt 7237492) I J) = Int32.ofInt 0 → w_X11_operand_18 SL xs d p s q Q a0 I J) ∧ (¬ ((sy_X11_isWord (Int64.ofInt 7237492) I J) = Int32.ofInt 0) → w_X11_operand_20 SL xs d p s q Q a0 (Int32.ofInt 1) I J))) ∧ (¬ (a0 = Int32.ofInt 0) → w_X11_operand_18 SL xs d p s q Q a0 I J))) : mm_s SL xs (d + 3) 187 [.ref 65, .int a0] (hp p s q I J) Q := by
  refine e_X11_operand rfl ?_
  refine hs_L (L2 := [some (.ref 65), some (.int a0), none, none, none]) rfl ?_
  refine sp_iload_n 1 rfl rfl rfl ?_
  refine sp_if_ne 4 rfl rfl (fun q_ => ?_) (fun q_ => ?_)
  · have k := k.2 q_
    exact k
  · have k := k.1 q_
    refine sp_aload_n 5 rfl rfl rfl ?_
    refine sp_ldc2 8 rfl rfl ?_
    refine sc_V 11 rfl rfl rfl rfl rfl (Nat.le_refl _) (Nat.le_refl _) rfl ?_
    refine cy_X11_isWord ?_
    refine sp_if_eq 14 rfl rfl (fun q_ => ?_) (fun q_ => ?_)
    · have k := k.1 q_
      exact k
    · have k := k.2 q_
      refine sp_iconst 15 rfl rfl ?_
      refine sp_goto rfl ?_
      refine hs_istore_n 20 (L2 := [some (.ref 65), some (.int a0), some (.int (Int32.ofInt 1)), none, none]) rfl rfl rfl rfl ?_
      exact k
theorem sg_X11_operand_18 {SL : Nat} {xs : Nat → Int32} {d : Nat} {p s q : Nat} {Q : Option Value → mm_H → Prop} {v1 : Int32} {I : Nat → Nat → Int32} {J : Nat → Nat → Int64}  (k : w_X11_operand_20 SL xs d p s q Q v1 (Int32.ofInt 0) I J) : w_X11_operand_18 SL xs d p s q Q v1 I J := by
  unfold w_X11_operand_18
  refine sp_iconst 19 rfl rfl ?_
  refine hs_istore_n 20 (L2 := [some (.ref 65), some (.int v1), some (.int (Int32.ofInt 0)), none, none]) rfl rfl rfl rfl ?_
  exact k
theorem sg_X11_operand_20 {SL : Nat} {xs : Nat → Int32} {d : Nat} {p s q : Nat} {Q : Option Value → mm_H → Prop} {v1 : Int32} {v2 : Int32} {I : Nat → Nat → Int32} {J : Nat → Nat → Int64}  (k : (((I 65 6) = (Int32.ofInt 2) → w_X11_operand_46 SL xs d p s q Q v1 v2 (sy_X11_known  I J) I J) ∧ (¬ ((I 65 6) = (Int32.ofInt 2)) → (((I 65 6) = (Int32.ofInt 40) → w_X11_operand_46 SL xs d p s q Q v1 v2 (sy_X11_known  I J) I J) ∧ (¬ ((I 65 6) = (Int32.ofInt 40)) → (((sy_X11_known  I J) < Int32.ofInt 0 → w_X11_operand_53 SL xs d p s q Q v1 v2 (sy_X11_known  I J) (Int32.ofInt 0) I J) ∧ (¬ ((sy_X11_known  I J) < Int32.ofInt 0) → w_X11_operand_46 SL xs d p s q Q v1 v2 (sy_X11_known  I J) I J))))))) : w_X11_operand_20 SL xs d p s q Q v1 v2 I J := by
  unfold w_X11_operand_20
  refine sp_aload_n 21 rfl rfl rfl ?_
  refine sc_V 24 rfl rfl rfl rfl rfl (Nat.le_refl _) (Nat.le_refl _) rfl ?_
  refine cy_X11_known ?_
  refine hs_istore_n 25 (L2 := [some (.ref 65), some (.int v1), some (.int v2), some (.int (sy_X11_known  I J)), none]) rfl rfl rfl rfl ?_
  refine sp_aload_n 26 rfl rfl rfl ?_
  refine hq_getI 29 rfl rfl rfl ?_
  refine sp_iconst 30 rfl rfl ?_
  refine sp_ic_eq 33 rfl rfl (fun q_ => ?_) (fun q_ => ?_)
  · have k := k.1 q_
    exact k
  · have k := k.2 q_
    refine sp_aload_n 34 rfl rfl rfl ?_
    refine hq_getI 37 rfl rfl rfl ?_
    refine sp_bipush 39 rfl rfl ?_
    refine sp_I (y := Int32.ofInt 40) rfl ?_
    refine sp_ic_eq 42 rfl rfl (fun q_ => ?_) (fun q_ => ?_)
    · have k := k.1 q_
      exact k
    · have k := k.2 q_
      refine sp_iload_n 43 rfl rfl rfl ?_
      refine sp_if_lt 46 rfl rfl (fun q_ => ?_) (fun q_ => ?_)
      · have k := k.1 q_
        refine sp_iconst 51 rfl rfl ?_
        refine hs_istore 53 (L2 := [some (.ref 65), some (.int v1), some (.int v2), some (.int (sy_X11_known  I J)), some (.int (Int32.ofInt 0))]) rfl rfl rfl rfl ?_
        exact k
      · have k := k.2 q_
        exact k
theorem sg_X11_operand_46 {SL : Nat} {xs : Nat → Int32} {d : Nat} {p s q : Nat} {Q : Option Value → mm_H → Prop} {v1 : Int32} {v2 : Int32} {v3 : Int32} {I : Nat → Nat → Int32} {J : Nat → Nat → Int64}  (k : w_X11_operand_53 SL xs d p s q Q v1 v2 v3 (Int32.ofInt 1) I J) : w_X11_operand_46 SL xs d p s q Q v1 v2 v3 I J := by
  unfold w_X11_operand_46
  refine sp_iconst 47 rfl rfl ?_
  refine sp_goto rfl ?_
  refine hs_istore 53 (L2 := [some (.ref 65), some (.int v1), some (.int v2), some (.int v3), some (.int (Int32.ofInt 1))]) rfl rfl rfl rfl ?_
  exact k
theorem sg_X11_operand_53 {SL : Nat} {xs : Nat → Int32} {d : Nat} {p s q : Nat} {Q : Option Value → mm_H → Prop} {v1 : Int32} {v2 : Int32} {v3 : Int32} {v4 : Int32} {I : Nat → Nat → Int32} {J : Nat → Nat → Int64}  (k : ((v2 = Int32.ofInt 0 → ((v4 = Int32.ofInt 0 → w_X11_operand_98 SL xs d p s q Q v1 v2 v3 v4 I J) ∧ (¬ (v4 = Int32.ofInt 0) → w_X11_operand_62 SL xs d p s q Q v1 v2 v3 v4 I J))) ∧ (¬ (v2 = Int32.ofInt 0) → w_X11_operand_62 SL xs d p s q Q v1 v2 v3 v4 I J))) : w_X11_operand_53 SL xs d p s q Q v1 v2 v3 v4 I J := by
  unfold w_X11_operand_53
  refine sp_iload_n 54 rfl rfl rfl ?_
  refine sp_if_ne 57 rfl rfl (fun q_ => ?_) (fun q_ => ?_)
  · have k := k.2 q_
    exact k
  · have k := k.1 q_
    refine sp_iload 59 rfl rfl rfl ?_
    refine sp_if_eq 62 rfl rfl (fun q_ => ?_) (fun q_ => ?_)
    · have k := k.1 q_
      exact k
    · have k := k.2 q_
      exact k
theorem sg_X11_operand_62 {SL : Nat} {xs : Nat → Int32} {d : Nat} {p s q : Nat} {Q : Option Value → mm_H → Prop} {v1 : Int32} {v2 : Int32} {v3 : Int32} {v4 : Int32} {I : Nat → Nat → Int32} {J : Nat → Nat → Int64}  (k : ((v4 = Int32.ofInt 0 → w_X11_operand_76 SL xs d p s q Q v1 v2 v3 v4 I J) ∧ (¬ (v4 = Int32.ofInt 0) → (((I 65 19) = (Int32.ofInt 40) → w_X11_operand_98 SL xs d p s q Q v1 v2 v3 v4 I J) ∧ (¬ ((I 65 19) = (Int32.ofInt 40)) → w_X11_operand_76 SL xs d p s q Q v1 v2 v3 v4 I J))))) : w_X11_operand_62 SL xs d p s q Q v1 v2 v3 v4 I J := by
  unfold w_X11_operand_62
  refine sp_iload 64 rfl rfl rfl ?_
  refine sp_if_eq 67 rfl rfl (fun q_ => ?_) (fun q_ => ?_)
  · have k := k.1 q_
    exact k
  · have k := k.2 q_
    refine sp_aload_n 68 rfl rfl rfl ?_
    refine hq_getI 71 rfl rfl rfl ?_
    refine sp_bipush 73 rfl rfl ?_
    refine sp_I (y := Int32.ofInt 40) rfl ?_
    refine sp_ic_eq 76 rfl rfl (fun q_ => ?_) (fun q_ => ?_)
    · have k := k.1 q_
      exact k
    · have k := k.2 q_
      exact k
theorem sg_X11_operand_76 {SL : Nat} {xs : Nat → Int32} {d : Nat} {p s q : Nat} {Q : Option Value → mm_H → Prop} {v1 : Int32} {v2 : Int32} {v3 : Int32} {v4 : Int32} {I : Nat → Nat → Int32} {J : Nat → Nat → Int64}  (k : ((v2 = Int32.ofInt 0 → (((I 65 6) = (Int32.ofInt 40) → w_X11_operand_89 SL xs d p s q Q v1 v2 v3 v4 I J) ∧ (¬ ((I 65 6) = (Int32.ofInt 40)) → w_X11_operand_103 SL xs d p s q Q v1 v2 v3 v4 I J))) ∧ (¬ (v2 = Int32.ofInt 0) → w_X11_operand_89 SL xs d p s q Q v1 v2 v3 v4 I J))) : w_X11_operand_76 SL xs d p s q Q v1 v2 v3 v4 I J := by
  unfold w_X11_operand_76
  refine sp_iload_n 77 rfl rfl rfl ?_
  refine sp_if_ne 80 rfl rfl (fun q_ => ?_) (fun q_ => ?_)
  · have k := k.2 q_
    exact k
  · have k := k.1 q_
    refine sp_aload_n 81 rfl rfl rfl ?_
    refine hq_getI 84 rfl rfl rfl ?_
    refine sp_bipush 86 rfl rfl ?_
    refine sp_I (y := Int32.ofInt 40) rfl ?_
    refine sp_ic_ne 89 rfl rfl (fun q_ => ?_) (fun q_ => ?_)
    · have k := k.2 q_
      exact k
    · have k := k.1 q_
      exact k
theorem sg_X11_operand_89 {SL : Nat} {xs : Nat → Int32} {d : Nat} {p s q : Nat} {Q : Option Value → mm_H → Prop} {v1 : Int32} {v2 : Int32} {v3 : Int32} {v4 : Int32} {I : Nat → Nat → Int32} {J : Nat → Nat → Int64}  (k : (((I 65 23) < (Int32.ofInt 7) → w_X11_operand_103 SL xs d p s q Q v1 v2 v3 v4 I J) ∧ (¬ ((I 65 23) < (Int32.ofInt 7)) → w_X11_operand_98 SL xs d p s q Q v1 v2 v3 v4 I J))) : w_X11_operand_89 SL xs d p s q Q v1 v2 v3 v4 I J := by
  unfold w_X11_operand_89
  refine sp_aload_n 90 rfl rfl rfl ?_
  refine hq_getI 93 rfl rfl rfl ?_
  refine sp_bipush 95 rfl rfl ?_
  refine sp_I (y := Int32.ofInt 7) rfl ?_
  refine sp_ic_lt 98 rfl rfl (fun q_ => ?_) (fun q_ => ?_)
  · have k := k.1 q_
    exact k
  · have k := k.2 q_
    exact k
theorem sg_X11_operand_98 {SL : Nat} {xs : Nat → Int32} {d : Nat} {p s q : Nat} {Q : Option Value → mm_H → Prop} {v1 : Int32} {v2 : Int32} {v3 : Int32} {v4 : Int32} {I : Nat → Nat → Int32} {J : Nat → Nat → Int64}  (k : (mm_s SL xs (d + 2) 173 [.ref 65, .int (Int32.ofInt 2)] (hp p s q I J) (fun r_ h_ => ∃ I1 J1, r_ = none ∧ h_ = hp p s q I1 J1 ∧ w_X11_operand_103 SL xs d p s q Q v1 v2 v3 v4 I1 J1))) : w_X11_operand_98 SL xs d p s q Q v1 v2 v3 v4 I J := by
  unfold w_X11_operand_98
  refine sp_aload_n 99 rfl rfl rfl ?_
  refine sp_iconst 100 rfl rfl ?_
  refine sc_V 103 rfl rfl rfl rfl rfl (Nat.le_refl _) (Nat.le_refl _) rfl ?_
  refine mm_s_mono _ _ _ _ _ _ ?_ k
  rintro r_ h_ ⟨I1, J1, rfl, rfl, k⟩
  refine hs_S (st2 := []) rfl ?_
  exact k
theorem sg_X11_operand_103 {SL : Nat} {xs : Nat → Int32} {d : Nat} {p s q : Nat} {Q : Option Value → mm_H → Prop} {v1 : Int32} {v2 : Int32} {v3 : Int32} {v4 : Int32} {I : Nat → Nat → Int32} {J : Nat → Nat → Int64}  (k : (((I 65 2) ≤ Int32.ofInt 0 → ((v2 = Int32.ofInt 0 → (((I 65 6) = (Int32.ofInt 40) → (mm_s SL xs (d + 2) 181 [.ref 65, .int (Int32.ofInt 40)] (hp p s q (mm_u I 65 19 ((I 65 19) + (Int32.ofInt 1))) J) (fun r_ h_ => ∃ I3 J3, r_ = none ∧ h_ = hp p s q I3 J3 ∧ (mm_s SL xs (d + 2) 172 [.ref 65] (hp p s q I3 J3) (fun r_ h_ => ∃ I4 J4, r_ = none ∧ h_ = hp p s q I4 J4 ∧ Q (some (.int (Int32.ofInt 0))) (hp p s q I4 J4)))))) ∧ (¬ ((I 65 6) = (Int32.ofInt 40)) → ((Int32.ofInt 0 ≤ v3 → (mm_s SL xs (d + 2) 179 [.ref 65, .int v3, .int (I 65 8)] (hp p s q (mm_u I 65 19 ((I 65 19) + (Int32.ofInt 1))) J) (fun r_ h_ => ∃ I1 J1, r_ = none ∧ h_ = hp p s q I1 J1 ∧ w_X11_operand_176 SL xs d p s q Q v1 v2 v3 v4 I1 J1))) ∧ (¬ (Int32.ofInt 0 ≤ v3) → (mm_s SL xs (d + 2) 179 [.ref 65, .int (Int32.ofInt 0), .int (I 65 8)] (hp p s q (mm_u I 65 19 ((I 65 19) + (Int32.ofInt 1))) J) (fun r_ h_ => ∃ I2 J2, r_ = none ∧ h_ = hp p s q I2 J2 ∧ w_X11_operand_176 SL xs d p s q Q v1 v2 v3 v4 I2 J2))))))) ∧ (¬ (v2 = Int32.ofInt 0) → (mm_s SL xs (d + 2) 181 [.ref 65, .int (Int32.ofInt 22)] (hp p s q I J) (fun r_ h_ => ∃ I5 J5, r_ = none ∧ h_ = hp p s q I5 J5 ∧ (mm_s SL xs (d + 2) 172 [.ref 65] (hp p s q I5 J5) (fun r_ h_ => ∃ I6 J6, r_ = none ∧ h_ = hp p s q I6 J6 ∧ Q (some (.int (Int32.ofInt 0))) (hp p s q I6 J6)))))))) ∧ (¬ ((I 65 2) ≤ Int32.ofInt 0) → Q (some (.int v1)) (hp p s q I J)))) : w_X11_operand_103 SL xs d p s q Q v1 v2 v3 v4 I J := by
  unfold w_X11_operand_103
  refine sp_aload_n 104 rfl rfl rfl ?_
  refine hq_getI 107 rfl rfl rfl ?_
  refine sp_if_le 110 rfl rfl (fun q_ => ?_) (fun q_ => ?_)
  · have k := k.1 q_
    refine sp_iload_n 113 rfl rfl rfl ?_
    refine sp_if_eq 116 rfl rfl (fun q_ => ?_) (fun q_ => ?_)
    · have k := k.1 q_
      refine sp_aload_n 129 rfl rfl rfl ?_
      refine sp_dup 130 rfl rfl rfl ?_
      refine hq_getI 133 rfl rfl rfl ?_
      refine sp_iconst 134 rfl rfl ?_
      refine sp_iadd 135 rfl rfl ?_
      refine hq_putI 138 rfl rfl rfl ?_
      refine sp_aload_n 139 rfl rfl rfl ?_
      refine hq_getI 142 rfl rfl rfl ?_
      refine sp_I (y := (I 65 6)) (by simp [mm_u]) ?_
      refine sp_bipush 144 rfl rfl ?_
      refine sp_I (y := Int32.ofInt 40) rfl ?_
      refine sp_ic_ne 147 rfl rfl (fun q_ => ?_) (fun q_ => ?_)
      · have k := k.2 q_
        refine sp_aload_n 160 rfl rfl rfl ?_
        refine sp_iload_n 161 rfl rfl rfl ?_
        refine sp_if_ge 164 rfl rfl (fun q_ => ?_) (fun q_ => ?_)
        · have k := k.1 q_
          refine sp_iload_n 169 rfl rfl rfl ?_
          refine sp_aload_n 170 rfl rfl rfl ?_
          refine hq_getI 173 rfl rfl rfl ?_
          refine sp_I (y := (I 65 8)) (by simp [mm_u]) ?_
          refine sc_V 176 rfl rfl rfl rfl rfl (Nat.le_refl _) (Nat.le_refl _) rfl ?_
          refine mm_s_mono _ _ _ _ _ _ ?_ k
          rintro r_ h_ ⟨I1, J1, rfl, rfl, k⟩
          refine hs_S (st2 := []) rfl ?_
          exact k
        · have k := k.2 q_
          refine sp_iconst 165 rfl rfl ?_
          refine sp_goto rfl ?_
          refine sp_aload_n 170 rfl rfl rfl ?_
          refine hq_getI 173 rfl rfl rfl ?_
          refine sp_I (y := (I 65 8)) (by simp [mm_u]) ?_
          refine sc_V 176 rfl rfl rfl rfl rfl (Nat.le_refl _) (Nat.le_refl _) rfl ?_
          refine mm_s_mono _ _ _ _ _ _ ?_ k
          rintro r_ h_ ⟨I2, J2, rfl, rfl, k⟩
          refine hs_S (st2 := []) rfl ?_
          exact k
      · have k := k.1 q_
        refine sp_aload_n 148 rfl rfl rfl ?_
        refine sp_bipush 150 rfl rfl ?_
        refine sp_I (y := Int32.ofInt 40) rfl ?_
        refine sc_V 153 rfl rfl rfl rfl rfl (Nat.le_refl _) (Nat.le_refl _) rfl ?_
        refine mm_s_mono _ _ _ _ _ _ ?_ k
        rintro r_ h_ ⟨I3, J3, rfl, rfl, k⟩
        refine hs_S (st2 := []) rfl ?_
        refine sp_aload_n 154 rfl rfl rfl ?_
        refine sc_V 157 rfl rfl rfl rfl rfl (Nat.le_refl _) (Nat.le_refl _) rfl ?_
        refine mm_s_mono _ _ _ _ _ _ ?_ k
        rintro r_ h_ ⟨I4, J4, rfl, rfl, k⟩
        refine hs_S (st2 := []) rfl ?_
        refine sp_iconst 158 rfl rfl ?_
        exact st_iret rfl rfl (Nat.le_refl _) (Nat.le_refl _) k
    · have k := k.2 q_
      refine sp_aload_n 117 rfl rfl rfl ?_
      refine sp_bipush 119 rfl rfl ?_
      refine sp_I (y := Int32.ofInt 22) rfl ?_
      refine sc_V 122 rfl rfl rfl rfl rfl (Nat.le_refl _) (Nat.le_refl _) rfl ?_
      refine mm_s_mono _ _ _ _ _ _ ?_ k
      rintro r_ h_ ⟨I5, J5, rfl, rfl, k⟩
      refine hs_S (st2 := []) rfl ?_
      refine sp_aload_n 123 rfl rfl rfl ?_
      refine sc_V 126 rfl rfl rfl rfl rfl (Nat.le_refl _) (Nat.le_refl _) rfl ?_
      refine mm_s_mono _ _ _ _ _ _ ?_ k
      rintro r_ h_ ⟨I6, J6, rfl, rfl, k⟩
      refine hs_S (st2 := []) rfl ?_
      refine sp_iconst 127 rfl rfl ?_
      exact st_iret rfl rfl (Nat.le_refl _) (Nat.le_refl _) k
  · have k := k.2 q_
    refine sp_iload_n 111 rfl rfl rfl ?_
    exact st_iret rfl rfl (Nat.le_refl _) (Nat.le_refl _) k
theorem sg_X11_operand_176 {SL : Nat} {xs : Nat → Int32} {d : Nat} {p s q : Nat} {Q : Option Value → mm_H → Prop} {v1 : Int32} {v2 : Int32} {v3 : Int32} {v4 : Int32} {I : Nat → Nat → Int32} {J : Nat → Nat → Int64}  (k : (mm_s SL xs (d + 2) 172 [.ref 65] (hp p s q I J) (fun r_ h_ => ∃ I1 J1, r_ = none ∧ h_ = hp p s q I1 J1 ∧ Q (some (.int (Int32.ofInt 2))) (hp p s q I1 J1)))) : w_X11_operand_176 SL xs d p s q Q v1 v2 v3 v4 I J := by
  unfold w_X11_operand_176
  refine sp_aload_n 177 rfl rfl rfl ?_
  refine sc_V 180 rfl rfl rfl rfl rfl (Nat.le_refl _) (Nat.le_refl _) rfl ?_
  refine mm_s_mono _ _ _ _ _ _ ?_ k
  rintro r_ h_ ⟨I1, J1, rfl, rfl, k⟩
  refine hs_S (st2 := []) rfl ?_
  refine sp_iconst 181 rfl rfl ?_
  exact st_iret rfl rfl (Nat.le_refl _) (Nat.le_refl _) k
def w_X11_readRhyme_24 (SL : Nat) (xs : Nat → Int32) (d : Nat) (p s q : Nat) (Q : Option Value → mm_H → Prop)  (I : Nat → Nat → Int32) (J : Nat → Nat → Int64) : Prop := mm_w SL xs (mm_s SL xs (d + 2)) mm_am kX11_readRhyme 0 0 none Q 24 [some (.ref 65)] [] (hp p s q I J) 0 0
theorem sg_X11_readRhyme {SL : Nat} {xs : Nat → Int32} {d : Nat} {p s q : Nat} {Q : Option Value → mm_H → Prop}  {I : Nat → Nat → Int32} {J : Nat → Nat → Int64}  (k : (mm_s SL xs (d + 2) 172 [.ref 65] (hp p s q I J) (fun r_ h_ => ∃ I1 J1, r_ = none ∧ h_ = hp p s q I1 J1 ∧ (vp_in (Int32.ofInt 7) 8 ∧ (mm_s SL xs (d + 2) 175 [.ref 65] (hp p s q (mm_u I1 85 (((Int32.ofInt 7)).toNatClampNeg) (Int32.ofInt 1)) J1) (fun r_ h_ => ∃ x2 I2 J2, r_ = some (.int x2) ∧ h_ = hp p s q I2 J2 ∧ ((x2 = Int32.ofInt 0 → (mm_s SL xs (d + 2) 173 [.ref 65, .int (Int32.ofInt 2)] (hp p s q I2 J2) (fun r_ h_ => ∃ I3 J3, r_ = none ∧ h_ = hp p s q I3 J3 ∧ w_X11_readRhyme_24 SL xs d p s q Q  I3 J3))) ∧ (¬ (x2 = Int32.ofInt 0) → w_X11_readRhyme_24 SL xs d p s q Q  I2 J2)))))))) : mm_s SL xs (d + 3) 193 [.ref 65] (hp p s q I J) Q := by
  refine e_X11_readRhyme rfl ?_
  refine hs_L (L2 := [some (.ref 65)]) rfl ?_
  refine sp_aload_n 1 rfl rfl rfl ?_
  refine sc_V 4 rfl rfl rfl rfl rfl (Nat.le_refl _) (Nat.le_refl _) rfl ?_
  refine mm_s_mono _ _ _ _ _ _ ?_ k
  rintro r_ h_ ⟨I1, J1, rfl, rfl, k⟩
  refine hs_S (st2 := []) rfl ?_
  refine sp_aload_n 5 rfl rfl rfl ?_
  refine hq_getR 8 rfl rfl rfl rfl ?_
  refine sp_bipush 10 rfl rfl ?_
  refine sp_I (y := Int32.ofInt 7) rfl ?_
  refine sp_iconst 11 rfl rfl ?_
  have n1_ := k.1
  have k := k.2
  refine hq_zast 12 rfl rfl n1_ (by decide) rfl ?_
  refine sp_aload_n 13 rfl rfl rfl ?_
  refine sc_V 16 rfl rfl rfl rfl rfl (Nat.le_refl _) (Nat.le_refl _) rfl ?_
  refine mm_s_mono _ _ _ _ _ _ ?_ k
  rintro r_ h_ ⟨x2, I2, J2, rfl, rfl, k⟩
  refine hs_S (st2 := [.int x2]) rfl ?_
  refine sp_if_ne 19 rfl rfl (fun q_ => ?_) (fun q_ => ?_)
  · have k := k.2 q_
    exact k
  · have k := k.1 q_
    refine sp_aload_n 20 rfl rfl rfl ?_
    refine sp_iconst 21 rfl rfl ?_
    refine sc_V 24 rfl rfl rfl rfl rfl (Nat.le_refl _) (Nat.le_refl _) rfl ?_
    refine mm_s_mono _ _ _ _ _ _ ?_ k
    rintro r_ h_ ⟨I3, J3, rfl, rfl, k⟩
    refine hs_S (st2 := []) rfl ?_
    exact k
theorem sg_X11_readRhyme_24 {SL : Nat} {xs : Nat → Int32} {d : Nat} {p s q : Nat} {Q : Option Value → mm_H → Prop}  {I : Nat → Nat → Int32} {J : Nat → Nat → Int64}  (k : (((I 65 2) = Int32.ofInt 0 → (mm_s SL xs (d + 2) 175 [.ref 65] (hp p s q I J) (fun r_ h_ => ∃ x1 I1 J1, r_ = some (.int x1) ∧ h_ = hp p s q I1 J1 ∧ ((x1 = Int32.ofInt 0 → Q none (hp p s q I1 J1)) ∧ (¬ (x1 = Int32.ofInt 0) → (((I1 65 40) = (Int32.ofInt 24) → (mm_s SL xs (d + 2) 173 [.ref 65, .int (Int32.ofInt 2)] (hp p s q I1 J1) (fun r_ h_ => ∃ I3 J3, r_ = none ∧ h_ = hp p s q I3 J3 ∧ (((I3 65 2) ≤ Int32.ofInt 0 → (mm_s SL xs (d + 2) 172 [.ref 65] (hp p s q (mm_u (mm_u I3 65 40 ((I3 65 40) + (Int32.ofInt 1))) 65 41 ((I3 65 41) + (I3 65 10))) J3) (fun r_ h_ => ∃ I4 J4, r_ = none ∧ h_ = hp p s q I4 J4 ∧ w_X11_readRhyme_24 SL xs d p s q Q  I4 J4))) ∧ (¬ ((I3 65 2) ≤ Int32.ofInt 0) → Q none (hp p s q I3 J3)))))) ∧ (¬ ((I1 65 40) = (Int32.ofInt 24)) → (((I1 65 2) ≤ Int32.ofInt 0 → (mm_s SL xs (d + 2) 172 [.ref 65] (hp p s q (mm_u (mm_u I1 65 40 ((I1 65 40) + (Int32.ofInt 1))) 65 41 ((I1 65 41) + (I1 65 10))) J1) (fun r_ h_ => ∃ I2 J2, r_ = none ∧ h_ = hp p s q I2 J2 ∧ w_X11_readRhyme_24 SL xs d p s q Q  I2 J2))) ∧ (¬ ((I1 65 2) ≤ Int32.ofInt 0) → Q none (hp p s q I1 J1)))))))))) ∧ (¬ ((I 65 2) = Int32.ofInt 0) → Q none (hp p s q I J)))) : w_X11_readRhyme_24 SL xs d p s q Q  I J := by
  unfold w_X11_readRhyme_24
  refine sp_aload_n 25 rfl rfl rfl ?_
  refine hq_getI 28 rfl rfl rfl ?_
  refine sp_if_ne 31 rfl rfl (fun q_ => ?_) (fun q_ => ?_)
  · have k := k.2 q_
    exact st_vret rfl rfl (Nat.le_refl _) (Nat.le_refl _) k
  · have k := k.1 q_
    refine sp_aload_n 32 rfl rfl rfl ?_
    refine sc_V 35 rfl rfl rfl rfl rfl (Nat.le_refl _) (Nat.le_refl _) rfl ?_
    refine mm_s_mono _ _ _ _ _ _ ?_ k
    rintro r_ h_ ⟨x1, I1, J1, rfl, rfl, k⟩
    refine hs_S (st2 := [.int x1]) rfl ?_
    refine sp_if_eq 38 rfl rfl (fun q_ => ?_) (fun q_ => ?_)
    · have k := k.1 q_
      exact st_vret rfl rfl (Nat.le_refl _) (Nat.le_refl _) k
    · have k := k.2 q_
      refine sp_aload_n 39 rfl rfl rfl ?_
      refine hq_getI 42 rfl rfl rfl ?_
      refine sp_bipush 44 rfl rfl ?_
      refine sp_I (y := Int32.ofInt 24) rfl ?_
      refine sp_ic_ne 47 rfl rfl (fun q_ => ?_) (fun q_ => ?_)
      · have k := k.2 q_
        refine sp_aload_n 53 rfl rfl rfl ?_
        refine hq_getI 56 rfl rfl rfl ?_
        refine sp_if_le 59 rfl rfl (fun q_ => ?_) (fun q_ => ?_)
        · have k := k.1 q_
          refine sp_aload_n 61 rfl rfl rfl ?_
          refine sp_dup 62 rfl rfl rfl ?_
          refine hq_getI 65 rfl rfl rfl ?_
          refine sp_iconst 66 rfl rfl ?_
          refine sp_iadd 67 rfl rfl ?_
          refine hq_putI 70 rfl rfl rfl ?_
          refine sp_aload_n 71 rfl rfl rfl ?_
          refine sp_dup 72 rfl rfl rfl ?_
          refine hq_getI 75 rfl rfl rfl ?_
          refine sp_I (y := (I1 65 41)) (by simp [mm_u]) ?_
          refine sp_aload_n 76 rfl rfl rfl ?_
          refine hq_getI 79 rfl rfl rfl ?_
          refine sp_I (y := (I1 65 10)) (by simp [mm_u]) ?_
          refine sp_iadd 80 rfl rfl ?_
          refine hq_putI 83 rfl rfl rfl ?_
          refine sp_aload_n 84 rfl rfl rfl ?_
          refine sc_V 87 rfl rfl rfl rfl rfl (Nat.le_refl _) (Nat.le_refl _) rfl ?_
          refine mm_s_mono _ _ _ _ _ _ ?_ k
          rintro r_ h_ ⟨I2, J2, rfl, rfl, k⟩
          refine hs_S (st2 := []) rfl ?_
          refine sp_goto rfl ?_
          exact k
        · have k := k.2 q_
          exact st_vret rfl rfl (Nat.le_refl _) (Nat.le_refl _) k
      · have k := k.1 q_
        refine sp_aload_n 48 rfl rfl rfl ?_
        refine sp_iconst 49 rfl rfl ?_
        refine sc_V 52 rfl rfl rfl rfl rfl (Nat.le_refl _) (Nat.le_refl _) rfl ?_
        refine mm_s_mono _ _ _ _ _ _ ?_ k
        rintro r_ h_ ⟨I3, J3, rfl, rfl, k⟩
        refine hs_S (st2 := []) rfl ?_
        refine sp_aload_n 53 rfl rfl rfl ?_
        refine hq_getI 56 rfl rfl rfl ?_
        refine sp_if_le 59 rfl rfl (fun q_ => ?_) (fun q_ => ?_)
        · have k := k.1 q_
          refine sp_aload_n 61 rfl rfl rfl ?_
          refine sp_dup 62 rfl rfl rfl ?_
          refine hq_getI 65 rfl rfl rfl ?_
          refine sp_iconst 66 rfl rfl ?_
          refine sp_iadd 67 rfl rfl ?_
          refine hq_putI 70 rfl rfl rfl ?_
          refine sp_aload_n 71 rfl rfl rfl ?_
          refine sp_dup 72 rfl rfl rfl ?_
          refine hq_getI 75 rfl rfl rfl ?_
          refine sp_I (y := (I3 65 41)) (by simp [mm_u]) ?_
          refine sp_aload_n 76 rfl rfl rfl ?_
          refine hq_getI 79 rfl rfl rfl ?_
          refine sp_I (y := (I3 65 10)) (by simp [mm_u]) ?_
          refine sp_iadd 80 rfl rfl ?_
          refine hq_putI 83 rfl rfl rfl ?_
          refine sp_aload_n 84 rfl rfl rfl ?_
          refine sc_V 87 rfl rfl rfl rfl rfl (Nat.le_refl _) (Nat.le_refl _) rfl ?_
          refine mm_s_mono _ _ _ _ _ _ ?_ k
          rintro r_ h_ ⟨I4, J4, rfl, rfl, k⟩
          refine hs_S (st2 := []) rfl ?_
          refine sp_goto rfl ?_
          exact k
        · have k := k.2 q_
          exact st_vret rfl rfl (Nat.le_refl _) (Nat.le_refl _) k
def w_X11_going_30 (SL : Nat) (xs : Nat → Int32) (d : Nat) (p s q : Nat) (Q : Option Value → mm_H → Prop)  (I : Nat → Nat → Int32) (J : Nat → Nat → Int64) : Prop := mm_w SL xs (mm_s SL xs (d + 2)) mm_am kX11_going 0 0 none Q 30 [some (.ref 65), none, none, none, none, none, none] [] (hp p s q I J) 0 0
def w_X11_going_32 (SL : Nat) (xs : Nat → Int32) (d : Nat) (p s q : Nat) (Q : Option Value → mm_H → Prop) (v1 : Int32) (I : Nat → Nat → Int32) (J : Nat → Nat → Int64) : Prop := mm_w SL xs (mm_s SL xs (d + 2)) mm_am kX11_going 0 0 none Q 32 [some (.ref 65), some (.int v1), none, none, none, none, none] [] (hp p s q I J) 0 0
def w_X11_going_51 (SL : Nat) (xs : Nat → Int32) (d : Nat) (p s q : Nat) (Q : Option Value → mm_H → Prop) (v1 : Int32) (v2 : Int32) (I : Nat → Nat → Int32) (J : Nat → Nat → Int64) : Prop := mm_w SL xs (mm_s SL xs (d + 2)) mm_am kX11_going 0 0 none Q 51 [some (.ref 65), some (.int v1), some (.int v2), none, none, none, none] [] (hp p s q I J) 0 0
def w_X11_going_78 (SL : Nat) (xs : Nat → Int32) (d : Nat) (p s q : Nat) (Q : Option Value → mm_H → Prop) (v1 : Int32) (v2 : Int32) (v3 : Int32) (I : Nat → Nat → Int32) (J : Nat → Nat → Int64) : Prop := mm_w SL xs (mm_s SL xs (d + 2)) mm_am kX11_going 0 0 none Q 78 [some (.ref 65), some (.int v1), some (.int v2), some (.int v3), none, none, none] [] (hp p s q I J) 0 0
def w_X11_going_94 (SL : Nat) (xs : Nat → Int32) (d : Nat) (p s q : Nat) (Q : Option Value → mm_H → Prop) (v1 : Int32) (v2 : Int32) (v3 : Int32) (v4 : Int32) (I : Nat → Nat → Int32) (J : Nat → Nat → Int64) : Prop := mm_w SL xs (mm_s SL xs (d + 2)) mm_am kX11_going 0 0 none Q 94 [some (.ref 65), some (.int v1), some (.int v2), some (.int v3), some (.int v4), none, none] [] (hp p s q I J) 0 0
def w_X11_going_137 (SL : Nat) (xs : Nat → Int32) (d : Nat) (p s q : Nat) (Q : Option Value → mm_H → Prop) (v1 : Int32) (v2 : Int32) (v3 : Int32) (v4 : Int32) (v5 : Int32) (I : Nat → Nat → Int32) (J : Nat → Nat → Int64) : Prop := mm_w SL xs (mm_s SL xs (d + 2)) mm_am kX11_going 0 0 none Q 137 [some (.ref 65), some (.int v1), some (.int v2), some (.int v3), some (.int v4), some (.int v5), none] [] (hp p s q I J) 0 0
def w_X11_going_149 (SL : Nat) (xs : Nat → Int32) (d : Nat) (p s q : Nat) (Q : Option Value → mm_H → Prop) (v1 : Int32) (v2 : Int32) (v3 : Int32) (v4 : Int32) (v5 : Int32) (v6 : Int32) (I : Nat → Nat → Int32) (J : Nat → Nat → Int64) : Prop := mm_w SL xs (mm_s SL xs (d + 2)) mm_am kX11_going 0 0 none Q 149 [some (.ref 65), some (.int v1), some (.int v2), some (.int v3), some (.int v4), some (.int v5), some (.int v6)] [] (hp p s q I J) 0 0
def w_X11_going_162 (SL : Nat) (xs : Nat → Int32) (d : Nat) (p s q : Nat) (Q : Option Value → mm_H → Prop) (v1 : Int32) (v2 : Int32) (v3 : Int32) (v4 : Int32) (v5 : Int32) (v6 : Int32) (I : Nat → Nat → Int32) (J : Nat → Nat → Int64) : Prop := mm_w SL xs (mm_s SL xs (d + 2)) mm_am kX11_going 0 0 none Q 162 [some (.ref 65), some (.int v1), some (.int v2), some (.int v3), some (.int v4), some (.int v5), some (.int v6)] [] (hp p s q I J) 0 0
def w_X11_going_243 (SL : Nat) (xs : Nat → Int32) (d : Nat) (p s q : Nat) (Q : Option Value → mm_H → Prop) (v1 : Int32) (v2 : Int32) (v3 : Int32) (v4 : Int32) (v5 : Int32) (v6 : Int32) (I : Nat → Nat → Int32) (J : Nat → Nat → Int64) : Prop := mm_w SL xs (mm_s SL xs (d + 2)) mm_am kX11_going 0 0 none Q 243 [some (.ref 65), some (.int v1), some (.int v2), some (.int v3), some (.int v4), some (.int v5), some (.int v6)] [] (hp p s q I J) 0 0
theorem sg_X11_going {SL : Nat} {xs : Nat → Int32} {d : Nat} {p s q : Nat} {Q : Option Value → mm_H → Prop}  {I : Nat → Nat → Int32} {J : Nat → Nat → Int64}  (k : (((I 65 52) < Int32.ofInt 0 → w_X11_going_30 SL xs d p s q Q  (mm_u I 65 60 ((I 65 60) + (Int32.ofInt 1))) J) ∧ (¬ ((I 65 52) < Int32.ofInt 0) → (((((I 65 60) + (Int32.ofInt 1)) - ((I 65 60) + (Int32.ofInt 1)) / (Int32.ofInt 2) * (Int32.ofInt 2)) = Int32.ofInt 0 → w_X11_going_32 SL xs d p s q Q (Int32.ofInt 1) (mm_u I 65 60 ((I 65 60) + (Int32.ofInt 1))) J) ∧ (¬ ((((I 65 60) + (Int32.ofInt 1)) - ((I 65 60) + (Int32.ofInt 1)) / (Int32.ofInt 2) * (Int32.ofInt 2)) = Int32.ofInt 0) → w_X11_going_30 SL xs d p s q Q  (mm_u I 65 60 ((I 65 60) + (Int32.ofInt 1))) J))))) : mm_s SL xs (d + 3) 209 [.ref 65] (hp p s q I J) Q := by
  refine e_X11_going rfl ?_
  refine hs_L (L2 := [some (.ref 65), none, none, none, none, none, none]) rfl ?_
  refine sp_aload_n 1 rfl rfl rfl ?_
  refine sp_dup 2 rfl rfl rfl ?_
  refine hq_getI 5 rfl rfl rfl ?_
  refine sp_iconst 6 rfl rfl ?_
  refine sp_iadd 7 rfl rfl ?_
  refine hq_putI 10 rfl rfl rfl ?_
  refine sp_aload_n 11 rfl rfl rfl ?_
  refine hq_getI 14 rfl rfl rfl ?_
  refine sp_I (y := (I 65 52)) (by simp [mm_u]) ?_
  refine sp_if_lt 17 rfl rfl (fun q_ => ?_) (fun q_ => ?_)
  · have k := k.1 q_
    exact k
  · have k := k.2 q_
    refine sp_aload_n 18 rfl rfl rfl ?_
    refine hq_getI 21 rfl rfl rfl ?_
    refine sp_I (y := ((I 65 60) + (Int32.ofInt 1))) (by simp [mm_u]) ?_
    refine sp_iconst 22 rfl rfl ?_
    refine sp_irem 23 rfl (by decide) rfl ?_
    refine sp_if_ne 26 rfl rfl (fun q_ => ?_) (fun q_ => ?_)
    · have k := k.2 q_
      exact k
    · have k := k.1 q_
      refine sp_iconst 27 rfl rfl ?_
      refine sp_goto rfl ?_
      refine hs_istore_n 32 (L2 := [some (.ref 65), some (.int (Int32.ofInt 1)), none, none, none, none, none]) rfl rfl rfl rfl ?_
      exact k
theorem sg_X11_going_30 {SL : Nat} {xs : Nat → Int32} {d : Nat} {p s q : Nat} {Q : Option Value → mm_H → Prop}  {I : Nat → Nat → Int32} {J : Nat → Nat → Int64}  (k : w_X11_going_32 SL xs d p s q Q (Int32.ofInt 0) I J) : w_X11_going_30 SL xs d p s q Q  I J := by
  unfold w_X11_going_30
  refine sp_iconst 31 rfl rfl ?_
  refine hs_istore_n 32 (L2 := [some (.ref 65), some (.int (Int32.ofInt 0)), none, none, none, none, none]) rfl rfl rfl rfl ?_
  exact k
theorem sg_X11_going_32 {SL : Nat} {xs : Nat → Int32} {d : Nat} {p s q : Nat} {Q : Option Value → mm_H → Prop} {v1 : Int32} {I : Nat → Nat → Int32} {J : Nat → Nat → Int64}  (k : (mm_s SL xs (d + 2) 206 [.ref 65] (hp p s q I J) (fun r_ h_ => ∃ x1 I1 J1, r_ = some (.int x1) ∧ h_ = hp p s q I1 J1 ∧ (((I1 65 60) = (I1 65 77) → w_X11_going_51 SL xs d p s q Q v1 (x1 + Int32.ofInt 1) I1 J1) ∧ (¬ ((I1 65 60) = (I1 65 77)) → w_X11_going_51 SL xs d p s q Q v1 x1 I1 J1))))) : w_X11_going_32 SL xs d p s q Q v1 I J := by
  unfold w_X11_going_32
  refine sp_aload_n 33 rfl rfl rfl ?_
  refine sc_V 36 rfl rfl rfl rfl rfl (Nat.le_refl _) (Nat.le_refl _) rfl ?_
  refine mm_s_mono _ _ _ _ _ _ ?_ k
  rintro r_ h_ ⟨x1, I1, J1, rfl, rfl, k⟩
  refine hs_S (st2 := [.int x1]) rfl ?_
  refine hs_istore_n 37 (L2 := [some (.ref 65), some (.int v1), some (.int x1), none, none, none, none]) rfl rfl rfl rfl ?_
  refine sp_aload_n 38 rfl rfl rfl ?_
  refine hq_getI 41 rfl rfl rfl ?_
  refine sp_aload_n 42 rfl rfl rfl ?_
  refine hq_getI 45 rfl rfl rfl ?_
  refine sp_ic_ne 48 rfl rfl (fun q_ => ?_) (fun q_ => ?_)
  · have k := k.2 q_
    exact k
  · have k := k.1 q_
    refine hs_iinc 51 (L2 := [some (.ref 65), some (.int v1), some (.int (x1 + Int32.ofInt 1)), none, none, none, none]) rfl rfl rfl rfl rfl ?_
    exact k
theorem sg_X11_going_51 {SL : Nat} {xs : Nat → Int32} {d : Nat} {p s q : Nat} {Q : Option Value → mm_H → Prop} {v1 : Int32} {v2 : Int32} {I : Nat → Nat → Int32} {J : Nat → Nat → Int64}  (k : ((v1 = Int32.ofInt 0 → (((Int32.ofInt 1) = (I 65 64) → w_X11_going_78 SL xs d p s q Q v1 v2 (Int32.ofInt 0) (mm_u I 65 62 v2) J) ∧ (¬ ((Int32.ofInt 1) = (I 65 64)) → w_X11_going_78 SL xs d p s q Q v1 v2 (Int32.ofInt 1) (mm_u I 65 62 v2) J))) ∧ (¬ (v1 = Int32.ofInt 0) → (((Int32.ofInt 0) = (I 65 64) → w_X11_going_78 SL xs d p s q Q v1 v2 (Int32.ofInt 0) (mm_u I 65 62 v2) J) ∧ (¬ ((Int32.ofInt 0) = (I 65 64)) → w_X11_going_78 SL xs d p s q Q v1 v2 (Int32.ofInt 1) (mm_u I 65 62 v2) J))))) : w_X11_going_51 SL xs d p s q Q v1 v2 I J := by
  unfold w_X11_going_51
  refine sp_aload_n 52 rfl rfl rfl ?_
  refine sp_iload_n 53 rfl rfl rfl ?_
  refine hq_putI 56 rfl rfl rfl ?_
  refine sp_iload_n 57 rfl rfl rfl ?_
  refine sp_if_ne 60 rfl rfl (fun q_ => ?_) (fun q_ => ?_)
  · have k := k.2 q_
    refine sp_iconst 65 rfl rfl ?_
    refine sp_aload_n 66 rfl rfl rfl ?_
    refine hq_getI 69 rfl rfl rfl ?_
    refine sp_I (y := (I 65 64)) (by simp [mm_u]) ?_
    refine sp_ic_eq 72 rfl rfl (fun q_ => ?_) (fun q_ => ?_)
    · have k := k.1 q_
      refine sp_iconst 77 rfl rfl ?_
      refine hs_istore_n 78 (L2 := [some (.ref 65), some (.int v1), some (.int v2), some (.int (Int32.ofInt 0)), none, none, none]) rfl rfl rfl rfl ?_
      exact k
    · have k := k.2 q_
      refine sp_iconst 73 rfl rfl ?_
      refine sp_goto rfl ?_
      refine hs_istore_n 78 (L2 := [some (.ref 65), some (.int v1), some (.int v2), some (.int (Int32.ofInt 1)), none, none, none]) rfl rfl rfl rfl ?_
      exact k
  · have k := k.1 q_
    refine sp_iconst 61 rfl rfl ?_
    refine sp_goto rfl ?_
    refine sp_aload_n 66 rfl rfl rfl ?_
    refine hq_getI 69 rfl rfl rfl ?_
    refine sp_I (y := (I 65 64)) (by simp [mm_u]) ?_
    refine sp_ic_eq 72 rfl rfl (fun q_ => ?_) (fun q_ => ?_)
    · have k := k.1 q_
      refine sp_iconst 77 rfl rfl ?_
      refine hs_istore_n 78 (L2 := [some (.ref 65), some (.int v1), some (.int v2), some (.int (Int32.ofInt 0)), none, none, none]) rfl rfl rfl rfl ?_
      exact k
    · have k := k.2 q_
      refine sp_iconst 73 rfl rfl ?_
      refine sp_goto rfl ?_
      refine hs_istore_n 78 (L2 := [some (.ref 65), some (.int v1), some (.int v2), some (.int (Int32.ofInt 1)), none, none, none]) rfl rfl rfl rfl ?_
      exact k
theorem sg_X11_going_78 {SL : Nat} {xs : Nat → Int32} {d : Nat} {p s q : Nat} {Q : Option Value → mm_H → Prop} {v1 : Int32} {v2 : Int32} {v3 : Int32} {I : Nat → Nat → Int32} {J : Nat → Nat → Int64}  (k : ((v3 = Int32.ofInt 0 → w_X11_going_94 SL xs d p s q Q v1 v2 v3 ((I 65 47) - (Int32.ofInt 1)) I J) ∧ (¬ (v3 = Int32.ofInt 0) → w_X11_going_94 SL xs d p s q Q v1 v2 v3 (Int32.ofInt 1) I J))) : w_X11_going_78 SL xs d p s q Q v1 v2 v3 I J := by
  unfold w_X11_going_78
  refine sp_iload_n 79 rfl rfl rfl ?_
  refine sp_if_eq 82 rfl rfl (fun q_ => ?_) (fun q_ => ?_)
  · have k := k.1 q_
    refine sp_aload_n 87 rfl rfl rfl ?_
    refine hq_getI 90 rfl rfl rfl ?_
    refine sp_iconst 91 rfl rfl ?_
    refine sp_isub 92 rfl rfl ?_
    refine hs_istore 94 (L2 := [some (.ref 65), some (.int v1), some (.int v2), some (.int v3), some (.int ((I 65 47) - (Int32.ofInt 1))), none, none]) rfl rfl rfl rfl ?_
    exact k
  · have k := k.2 q_
    refine sp_iconst 83 rfl rfl ?_
    refine sp_goto rfl ?_
    refine hs_istore 94 (L2 := [some (.ref 65), some (.int v1), some (.int v2), some (.int v3), some (.int (Int32.ofInt 1)), none, none]) rfl rfl rfl rfl ?_
    exact k
theorem sg_X11_going_94 {SL : Nat} {xs : Nat → Int32} {d : Nat} {p s q : Nat} {Q : Option Value → mm_H → Prop} {v1 : Int32} {v2 : Int32} {v3 : Int32} {v4 : Int32} {I : Nat → Nat → Int32} {J : Nat → Nat → Int64}  (k : (vp_in v1 2 ∧ ((Int32.ofInt 0 ≤ (I 90 ((v1).toNatClampNeg)) → (¬ (I 65 47) = 0 ∧ w_X11_going_137 SL xs d p s q Q v1 v2 v3 v4 (((I 90 ((v1).toNatClampNeg)) + v4) - ((I 90 ((v1).toNatClampNeg)) + v4) / (I 65 47) * (I 65 47)) I J)) ∧ (¬ (Int32.ofInt 0 ≤ (I 90 ((v1).toNatClampNeg))) → ((v1 = Int32.ofInt 0 → w_X11_going_137 SL xs d p s q Q v1 v2 v3 v4 (I 65 63) I J) ∧ (¬ (v1 = Int32.ofInt 0) → w_X11_going_137 SL xs d p s q Q v1 v2 v3 v4 (I 65 52) I J)))))) : w_X11_going_94 SL xs d p s q Q v1 v2 v3 v4 I J := by
  unfold w_X11_going_94
  refine sp_aload_n 95 rfl rfl rfl ?_
  refine hq_getR 98 rfl rfl rfl rfl ?_
  refine sp_iload_n 99 rfl rfl rfl ?_
  have n1_ := k.1
  have k := k.2
  refine hq_iald 100 rfl rfl n1_ rfl ?_
  refine sp_if_ge 103 rfl rfl (fun q_ => ?_) (fun q_ => ?_)
  · have k := k.1 q_
    refine sp_aload_n 122 rfl rfl rfl ?_
    refine hq_getR 125 rfl rfl rfl rfl ?_
    refine sp_iload_n 126 rfl rfl rfl ?_
    refine hq_iald 127 rfl rfl n1_ rfl ?_
    refine sp_iload 129 rfl rfl rfl ?_
    refine sp_iadd 130 rfl rfl ?_
    refine sp_aload_n 131 rfl rfl rfl ?_
    refine hq_getI 134 rfl rfl rfl ?_
    have n2_ := k.1
    have k := k.2
    refine sp_irem 135 rfl n2_ rfl ?_
    refine hs_istore 137 (L2 := [some (.ref 65), some (.int v1), some (.int v2), some (.int v3), some (.int v4), some (.int (((I 90 ((v1).toNatClampNeg)) + v4) - ((I 90 ((v1).toNatClampNeg)) + v4) / (I 65 47) * (I 65 47))), none]) rfl rfl rfl rfl ?_
    exact k
  · have k := k.2 q_
    refine sp_iload_n 104 rfl rfl rfl ?_
    refine sp_if_ne 107 rfl rfl (fun q_ => ?_) (fun q_ => ?_)
    · have k := k.2 q_
      refine sp_aload_n 115 rfl rfl rfl ?_
      refine hq_getI 118 rfl rfl rfl ?_
      refine sp_goto rfl ?_
      refine hs_istore 137 (L2 := [some (.ref 65), some (.int v1), some (.int v2), some (.int v3), some (.int v4), some (.int (I 65 52)), none]) rfl rfl rfl rfl ?_
      exact k
    · have k := k.1 q_
      refine sp_aload_n 108 rfl rfl rfl ?_
      refine hq_getI 111 rfl rfl rfl ?_
      refine sp_goto rfl ?_
      refine hs_istore 137 (L2 := [some (.ref 65), some (.int v1), some (.int v2), some (.int v3), some (.int v4), some (.int (I 65 63)), none]) rfl rfl rfl rfl ?_
      exact k
theorem sg_X11_going_137 {SL : Nat} {xs : Nat → Int32} {d : Nat} {p s q : Nat} {Q : Option Value → mm_H → Prop} {v1 : Int32} {v2 : Int32} {v3 : Int32} {v4 : Int32} {v5 : Int32} {I : Nat → Nat → Int32} {J : Nat → Nat → Int64}  (k : (¬ (I 65 59) = 0 ∧ w_X11_going_149 SL xs d p s q Q v1 v2 v3 v4 v5 (((v2 - (Int32.ofInt 1)) - (v2 - (Int32.ofInt 1)) / (I 65 59) * (I 65 59)) + (Int32.ofInt 1)) I J)) : w_X11_going_137 SL xs d p s q Q v1 v2 v3 v4 v5 I J := by
  unfold w_X11_going_137
  refine sp_iload_n 138 rfl rfl rfl ?_
  refine sp_iconst 139 rfl rfl ?_
  refine sp_isub 140 rfl rfl ?_
  refine sp_aload_n 141 rfl rfl rfl ?_
  refine hq_getI 144 rfl rfl rfl ?_
  have n3_ := k.1
  have k := k.2
  refine sp_irem 145 rfl n3_ rfl ?_
  refine sp_iconst 146 rfl rfl ?_
  refine sp_iadd 147 rfl rfl ?_
  refine hs_istore 149 (L2 := [some (.ref 65), some (.int v1), some (.int v2), some (.int v3), some (.int v4), some (.int v5), some (.int (((v2 - (Int32.ofInt 1)) - (v2 - (Int32.ofInt 1)) / (I 65 59) * (I 65 59)) + (Int32.ofInt 1)))]) rfl rfl rfl rfl ?_
  exact k
theorem sg_X11_going_149 {SL : Nat} {xs : Nat → Int32} {d : Nat} {p s q : Nat} {Q : Option Value → mm_H → Prop} {v1 : Int32} {v2 : Int32} {v3 : Int32} {v4 : Int32} {v5 : Int32} {v6 : Int32} {I : Nat → Nat → Int32} {J : Nat → Nat → Int64}  (k : (vp_in v5 60 ∧ (((I 91 ((v5).toNatClampNeg)) = Int32.ofInt 0 → w_X11_going_162 SL xs d p s q Q v1 v2 v3 v4 v5 v6 I J) ∧ (¬ ((I 91 ((v5).toNatClampNeg)) = Int32.ofInt 0) → w_X11_going_162 SL xs d p s q Q v1 v2 v3 v4 v5 (v6 + Int32.ofInt (-1)) I J)))) : w_X11_going_149 SL xs d p s q Q v1 v2 v3 v4 v5 v6 I J := by
  unfold w_X11_going_149
  refine sp_aload_n 150 rfl rfl rfl ?_
  refine hq_getR 153 rfl rfl rfl rfl ?_
  refine sp_iload 155 rfl rfl rfl ?_
  have n4_ := k.1
  have k := k.2
  refine hq_zald 156 rfl rfl n4_ rfl ?_
  refine sp_if_eq 159 rfl rfl (fun q_ => ?_) (fun q_ => ?_)
  · have k := k.1 q_
    exact k
  · have k := k.2 q_
    refine hs_iinc 162 (L2 := [some (.ref 65), some (.int v1), some (.int v2), some (.int v3), some (.int v4), some (.int v5), some (.int (v6 + Int32.ofInt (-1)))]) rfl rfl rfl rfl rfl ?_
    exact k
theorem sg_X11_going_162 {SL : Nat} {xs : Nat → Int32} {d : Nat} {p s q : Nat} {Q : Option Value → mm_H → Prop} {v1 : Int32} {v2 : Int32} {v3 : Int32} {v4 : Int32} {v5 : Int32} {v6 : Int32} {I : Nat → Nat → Int32} {J : Nat → Nat → Int64}  (k : ((v6 = Int32.ofInt 0 → (vp_in v1 2 ∧ (vp_in v5 60 ∧ (mm_s SL xs (d + 2) 207 [.ref 65, .int v5] (hp p s q (mm_u (mm_u I 90 ((v1).toNatClampNeg) v5) 87 ((v5).toNatClampNeg) ((I 87 ((v5).toNatClampNeg)) + (Int32.ofInt 1))) J) (fun r_ h_ => ∃ x1 I1 J1, r_ = some (.int x1) ∧ h_ = hp p s q I1 J1 ∧ ((x1 = Int32.ofInt 0 → ((((I 87 ((v5).toNatClampNeg)) + (Int32.ofInt 1)) = ((I 65 51) + (Int32.ofInt 1)) → (mm_s SL xs (d + 2) 210 [.ref 65, .int v5, .int (I1 65 60)] (hp p s q I1 J1) (fun r_ h_ => ∃ I2 J2, r_ = none ∧ h_ = hp p s q I2 J2 ∧ w_X11_going_243 SL xs d p s q Q v1 v2 v3 v4 v5 v6 I2 J2))) ∧ (¬ (((I 87 ((v5).toNatClampNeg)) + (Int32.ofInt 1)) = ((I 65 51) + (Int32.ofInt 1))) → w_X11_going_243 SL xs d p s q Q v1 v2 v3 v4 v5 v6 I1 J1))) ∧ (¬ (x1 = Int32.ofInt 0) → ((((I 87 ((v5).toNatClampNeg)) + (Int32.ofInt 1)) = ((I 65 51) + (Int32.ofInt 2)) → (mm_s SL xs (d + 2) 210 [.ref 65, .int v5, .int (I1 65 60)] (hp p s q I1 J1) (fun r_ h_ => ∃ I3 J3, r_ = none ∧ h_ = hp p s q I3 J3 ∧ w_X11_going_243 SL xs d p s q Q v1 v2 v3 v4 v5 v6 I3 J3))) ∧ (¬ (((I 87 ((v5).toNatClampNeg)) + (Int32.ofInt 1)) = ((I 65 51) + (Int32.ofInt 2))) → w_X11_going_243 SL xs d p s q Q v1 v2 v3 v4 v5 v6 I1 J1))))))))) ∧ (¬ (v6 = Int32.ofInt 0) → (¬ (I 65 47) = 0 ∧ w_X11_going_149 SL xs d p s q Q v1 v2 v3 v4 ((v5 + v4) - (v5 + v4) / (I 65 47) * (I 65 47)) v6 I J)))) : w_X11_going_162 SL xs d p s q Q v1 v2 v3 v4 v5 v6 I J := by
  unfold w_X11_going_162
  refine sp_iload 164 rfl rfl rfl ?_
  refine sp_if_ne 167 rfl rfl (fun q_ => ?_) (fun q_ => ?_)
  · have k := k.2 q_
    refine sp_iload 172 rfl rfl rfl ?_
    refine sp_iload 174 rfl rfl rfl ?_
    refine sp_iadd 175 rfl rfl ?_
    refine sp_aload_n 176 rfl rfl rfl ?_
    refine hq_getI 179 rfl rfl rfl ?_
    have n5_ := k.1
    have k := k.2
    refine sp_irem 180 rfl n5_ rfl ?_
    refine hs_istore 182 (L2 := [some (.ref 65), some (.int v1), some (.int v2), some (.int v3), some (.int v4), some (.int ((v5 + v4) - (v5 + v4) / (I 65 47) * (I 65 47))), some (.int v6)]) rfl rfl rfl rfl ?_
    refine sp_goto rfl ?_
    exact k
  · have k := k.1 q_
    refine sp_goto rfl ?_
    refine sp_aload_n 186 rfl rfl rfl ?_
    refine hq_getR 189 rfl rfl rfl rfl ?_
    refine sp_iload_n 190 rfl rfl rfl ?_
    refine sp_iload 192 rfl rfl rfl ?_
    have n6_ := k.1
    have k := k.2
    refine hq_iast 193 rfl rfl n6_ rfl ?_
    refine sp_aload_n 194 rfl rfl rfl ?_
    refine hq_getR 197 rfl rfl rfl rfl ?_
    refine sp_iload 199 rfl rfl rfl ?_
    refine sp_dup2 200 rfl rfl rfl rfl ?_
    have n7_ := k.1
    have k := k.2
    refine hq_iald 201 rfl rfl n7_ rfl ?_
    refine sp_I (y := (I 87 ((v5).toNatClampNeg))) (by simp [mm_u]) ?_
    refine sp_iconst 202 rfl rfl ?_
    refine sp_iadd 203 rfl rfl ?_
    refine hq_iast 204 rfl rfl n7_ rfl ?_
    refine sp_aload_n 205 rfl rfl rfl ?_
    refine hq_getR 208 rfl rfl rfl rfl ?_
    refine sp_iload 210 rfl rfl rfl ?_
    refine hq_iald 211 rfl rfl n7_ rfl ?_
    refine sp_I (y := ((I 87 ((v5).toNatClampNeg)) + (Int32.ofInt 1))) (by simp [mm_u]) ?_
    refine sp_aload_n 212 rfl rfl rfl ?_
    refine hq_getI 215 rfl rfl rfl ?_
    refine sp_I (y := (I 65 51)) (by simp [mm_u]) ?_
    refine sp_aload_n 216 rfl rfl rfl ?_
    refine sp_iload 218 rfl rfl rfl ?_
    refine sc_V 221 rfl rfl rfl rfl rfl (Nat.le_refl _) (Nat.le_refl _) rfl ?_
    refine mm_s_mono _ _ _ _ _ _ ?_ k
    rintro r_ h_ ⟨x1, I1, J1, rfl, rfl, k⟩
    refine hs_S (st2 := [.int x1, .int (I 65 51), .int ((I 87 ((v5).toNatClampNeg)) + (Int32.ofInt 1))]) rfl ?_
    refine sp_if_eq 224 rfl rfl (fun q_ => ?_) (fun q_ => ?_)
    · have k := k.1 q_
      refine sp_iconst 229 rfl rfl ?_
      refine sp_iadd 230 rfl rfl ?_
      refine sp_ic_ne 233 rfl rfl (fun q_ => ?_) (fun q_ => ?_)
      · have k := k.2 q_
        exact k
      · have k := k.1 q_
        refine sp_aload_n 234 rfl rfl rfl ?_
        refine sp_iload 236 rfl rfl rfl ?_
        refine sp_aload_n 237 rfl rfl rfl ?_
        refine hq_getI 240 rfl rfl rfl ?_
        refine sc_V 243 rfl rfl rfl rfl rfl (Nat.le_refl _) (Nat.le_refl _) rfl ?_
        refine mm_s_mono _ _ _ _ _ _ ?_ k
        rintro r_ h_ ⟨I2, J2, rfl, rfl, k⟩
        refine hs_S (st2 := []) rfl ?_
        exact k
    · have k := k.2 q_
      refine sp_iconst 225 rfl rfl ?_
      refine sp_goto rfl ?_
      refine sp_iadd 230 rfl rfl ?_
      refine sp_ic_ne 233 rfl rfl (fun q_ => ?_) (fun q_ => ?_)
      · have k := k.2 q_
        exact k
      · have k := k.1 q_
        refine sp_aload_n 234 rfl rfl rfl ?_
        refine sp_iload 236 rfl rfl rfl ?_
        refine sp_aload_n 237 rfl rfl rfl ?_
        refine hq_getI 240 rfl rfl rfl ?_
        refine sc_V 243 rfl rfl rfl rfl rfl (Nat.le_refl _) (Nat.le_refl _) rfl ?_
        refine mm_s_mono _ _ _ _ _ _ ?_ k
        rintro r_ h_ ⟨I3, J3, rfl, rfl, k⟩
        refine hs_S (st2 := []) rfl ?_
        exact k
theorem sg_X11_going_243 {SL : Nat} {xs : Nat → Int32} {d : Nat} {p s q : Nat} {Q : Option Value → mm_H → Prop} {v1 : Int32} {v2 : Int32} {v3 : Int32} {v4 : Int32} {v5 : Int32} {v6 : Int32} {I : Nat → Nat → Int32} {J : Nat → Nat → Int64}  (k : (((I 65 50) ≤ Int32.ofInt 0 → Q none (hp p s q I J)) ∧ (¬ ((I 65 50) ≤ Int32.ofInt 0) → (¬ (I 65 50) = 0 ∧ ((((I 65 60) - (I 65 60) / (I 65 50) * (I 65 50)) = Int32.ofInt 0 → (((I 65 64) = Int32.ofInt 0 → Q none (hp p s q (mm_u I 65 64 (Int32.ofInt 1)) J)) ∧ (¬ ((I 65 64) = Int32.ofInt 0) → Q none (hp p s q (mm_u I 65 64 (Int32.ofInt 0)) J)))) ∧ (¬ (((I 65 60) - (I 65 60) / (I 65 50) * (I 65 50)) = Int32.ofInt 0) → Q none (hp p s q I J))))))) : w_X11_going_243 SL xs d p s q Q v1 v2 v3 v4 v5 v6 I J := by
  unfold w_X11_going_243
  refine sp_aload_n 244 rfl rfl rfl ?_
  refine hq_getI 247 rfl rfl rfl ?_
  refine sp_if_le 250 rfl rfl (fun q_ => ?_) (fun q_ => ?_)
  · have k := k.1 q_
    exact st_vret rfl rfl (Nat.le_refl _) (Nat.le_refl _) k
  · have k := k.2 q_
    refine sp_aload_n 251 rfl rfl rfl ?_
    refine hq_getI 254 rfl rfl rfl ?_
    refine sp_aload_n 255 rfl rfl rfl ?_
    refine hq_getI 258 rfl rfl rfl ?_
    have n8_ := k.1
    have k := k.2
    refine sp_irem 259 rfl n8_ rfl ?_
    refine sp_if_ne 262 rfl rfl (fun q_ => ?_) (fun q_ => ?_)
    · have k := k.2 q_
      exact st_vret rfl rfl (Nat.le_refl _) (Nat.le_refl _) k
    · have k := k.1 q_
      refine sp_aload_n 263 rfl rfl rfl ?_
      refine sp_aload_n 264 rfl rfl rfl ?_
      refine hq_getI 267 rfl rfl rfl ?_
      refine sp_if_ne 270 rfl rfl (fun q_ => ?_) (fun q_ => ?_)
      · have k := k.2 q_
        refine sp_iconst 275 rfl rfl ?_
        refine hq_putZ 278 rfl rfl (by decide) rfl ?_
        exact st_vret rfl rfl (Nat.le_refl _) (Nat.le_refl _) k
      · have k := k.1 q_
        refine sp_iconst 271 rfl rfl ?_
        refine sp_goto rfl ?_
        refine hq_putZ 278 rfl rfl (by decide) rfl ?_
        exact st_vret rfl rfl (Nat.le_refl _) (Nat.le_refl _) k
def w_X11_keeps_26 (SL : Nat) (xs : Nat → Int32) (d : Nat) (p s q : Nat) (Q : Option Value → mm_H → Prop) (v1 : Int32) (v2 : Int64) (v4 : Int32) (v5 : Int32) (I : Nat → Nat → Int32) (J : Nat → Nat → Int64) : Prop := mm_w SL xs (mm_s SL xs (d + 2)) mm_am kX11_keeps 0 0 (some .int) Q 26 [some (.ref 65), some (.int v1), some (.long v2), none, some (.int v4), some (.int v5)] [] (hp p s q I J) 0 0
theorem sg_X11_keeps {SL : Nat} {xs : Nat → Int32} {d : Nat} {p s q : Nat} {Q : Option Value → mm_H → Prop} {a0 : Int32} {a1 : Int64} {I : Nat → Nat → Int32} {J : Nat → Nat → Int64}  (k : (((sx_X11_isSmall a0) = Int32.ofInt 0 → Q (some (.int (Int32.ofInt (-1)))) (hp p s q I J)) ∧ (¬ ((sx_X11_isSmall a0) = Int32.ofInt 0) → (((sx_X11_isSet a1 a0) = Int32.ofInt 0 → Q (some (.int (Int32.ofInt (-1)))) (hp p s q I J)) ∧ (¬ ((sx_X11_isSet a1 a0) = Int32.ofInt 0) → (mm_s SL xs (d + 2) 239 [.long a1] (hp p s q I J) (fun r_ h_ => ∃ x1 I1 J1, r_ = some (.int x1) ∧ h_ = hp p s q I1 J1 ∧ w_X11_keeps_26 SL xs d p s q Q a0 a1 x1 (Int32.ofInt 1) I1 J1))))))) : mm_s SL xs (d + 3) 241 [.ref 65, .int a0, .long a1] (hp p s q I J) Q := by
  refine e_X11_keeps rfl ?_
  refine hs_L (L2 := [some (.ref 65), some (.int a0), some (.long a1), none, none, none]) rfl ?_
  refine sp_iload_n 1 rfl rfl rfl ?_
  refine sc_S 4 rfl rfl rfl rfl (Nat.le_refl _) (Nat.le_refl _) rfl ?_
  refine cx_X11_isSmall ?_
  refine hs_S (st2 := [.int (sx_X11_isSmall a0)]) rfl ?_
  refine sp_if_eq 7 rfl rfl (fun q_ => ?_) (fun q_ => ?_)
  · have k := k.1 q_
    refine sp_iconst 16 rfl rfl ?_
    exact st_iret rfl rfl (Nat.le_refl _) (Nat.le_refl _) k
  · have k := k.2 q_
    refine sp_lload_n 8 rfl rfl rfl ?_
    refine sp_iload_n 9 rfl rfl rfl ?_
    refine sc_S 12 rfl rfl rfl rfl (Nat.le_refl _) (Nat.le_refl _) rfl ?_
    refine cx_X11_isSet ?_
    refine hs_S (st2 := [.int (sx_X11_isSet a1 a0)]) rfl ?_
    refine sp_if_ne 15 rfl rfl (fun q_ => ?_) (fun q_ => ?_)
    · have k := k.2 q_
      refine sp_lload_n 18 rfl rfl rfl ?_
      refine sc_S 21 rfl rfl rfl rfl (Nat.le_refl _) (Nat.le_refl _) rfl ?_
      refine mm_s_mono _ _ _ _ _ _ ?_ k
      rintro r_ h_ ⟨x1, I1, J1, rfl, rfl, k⟩
      refine hs_S (st2 := [.int x1]) rfl ?_
      refine hs_istore 23 (L2 := [some (.ref 65), some (.int a0), some (.long a1), none, some (.int x1), none]) rfl rfl rfl rfl ?_
      refine sp_iconst 24 rfl rfl ?_
      refine hs_istore 26 (L2 := [some (.ref 65), some (.int a0), some (.long a1), none, some (.int x1), some (.int (Int32.ofInt 1))]) rfl rfl rfl rfl ?_
      exact k
    · have k := k.1 q_
      refine sp_iconst 16 rfl rfl ?_
      exact st_iret rfl rfl (Nat.le_refl _) (Nat.le_refl _) k
theorem sg_X11_keeps_26 {SL : Nat} {xs : Nat → Int32} {d : Nat} {p s q : Nat} {Q : Option Value → mm_H → Prop} {v1 : Int32} {v2 : Int64} {v4 : Int32} {v5 : Int32} {I : Nat → Nat → Int32} {J : Nat → Nat → Int64}  (k : (((Int32.ofInt 3000) < v5 → Q (some (.int (Int32.ofInt (-1)))) (hp p s q I J)) ∧ (¬ ((Int32.ofInt 3000) < v5) → (mm_s SL xs (d + 2) 240 [.int v1, .int v5, .long v2, .int ((v1 - v4) + (Int32.ofInt 1)), .int v1] (hp p s q I J) (fun r_ h_ => ∃ x1 I1 J1, r_ = some (.int x1) ∧ h_ = hp p s q I1 J1 ∧ ((x1 = Int32.ofInt 0 → w_X11_keeps_26 SL xs d p s q Q v1 v2 v4 (v5 + Int32.ofInt 1) I1 J1) ∧ (¬ (x1 = Int32.ofInt 0) → Q (some (.int v5)) (hp p s q I1 J1)))))))) : w_X11_keeps_26 SL xs d p s q Q v1 v2 v4 v5 I J := by
  unfold w_X11_keeps_26
  refine sp_iload 28 rfl rfl rfl ?_
  refine sp_sipush 31 rfl rfl ?_
  refine sp_I (y := Int32.ofInt 3000) rfl ?_
  refine sp_ic_gt 34 rfl rfl (fun q_ => ?_) (fun q_ => ?_)
  · have k := k.1 q_
    refine sp_iconst 61 rfl rfl ?_
    exact st_iret rfl rfl (Nat.le_refl _) (Nat.le_refl _) k
  · have k := k.2 q_
    refine sp_iload_n 35 rfl rfl rfl ?_
    refine sp_iload 37 rfl rfl rfl ?_
    refine sp_lload_n 38 rfl rfl rfl ?_
    refine sp_iload_n 39 rfl rfl rfl ?_
    refine sp_iload 41 rfl rfl rfl ?_
    refine sp_isub 42 rfl rfl ?_
    refine sp_iconst 43 rfl rfl ?_
    refine sp_iadd 44 rfl rfl ?_
    refine sp_iload_n 45 rfl rfl rfl ?_
    refine sc_S 48 rfl rfl rfl rfl (Nat.le_refl _) (Nat.le_refl _) rfl ?_
    refine mm_s_mono _ _ _ _ _ _ ?_ k
    rintro r_ h_ ⟨x1, I1, J1, rfl, rfl, k⟩
    refine hs_S (st2 := [.int x1]) rfl ?_
    refine sp_if_eq 51 rfl rfl (fun q_ => ?_) (fun q_ => ?_)
    · have k := k.1 q_
      refine hs_iinc 57 (L2 := [some (.ref 65), some (.int v1), some (.long v2), none, some (.int v4), some (.int (v5 + Int32.ofInt 1))]) rfl rfl rfl rfl rfl ?_
      refine sp_goto rfl ?_
      exact k
    · have k := k.2 q_
      refine sp_iload 53 rfl rfl rfl ?_
      exact st_iret rfl rfl (Nat.le_refl _) (Nat.le_refl _) k
def w_X11_first_26 (SL : Nat) (xs : Nat → Int32) (d : Nat) (p s q : Nat) (Q : Option Value → mm_H → Prop) (v1 : Int32) (v2 : Int64) (v4 : Int32) (v5 : Int32) (I : Nat → Nat → Int32) (J : Nat → Nat → Int64) : Prop := mm_w SL xs (mm_s SL xs (d + 2)) mm_am kX11_first 0 0 (some .int) Q 26 [some (.ref 65), some (.int v1), some (.long v2), none, some (.int v4), some (.int v5)] [] (hp p s q I J) 0 0
theorem sg_X11_first {SL : Nat} {xs : Nat → Int32} {d : Nat} {p s q : Nat} {Q : Option Value → mm_H → Prop} {a0 : Int32} {a1 : Int64} {I : Nat → Nat → Int32} {J : Nat → Nat → Int64}  (k : (((sx_X11_isSmall a0) = Int32.ofInt 0 → Q (some (.int (Int32.ofInt (-1)))) (hp p s q I J)) ∧ (¬ ((sx_X11_isSmall a0) = Int32.ofInt 0) → (((sx_X11_isSet a1 a0) = Int32.ofInt 0 → Q (some (.int (Int32.ofInt (-1)))) (hp p s q I J)) ∧ (¬ ((sx_X11_isSet a1 a0) = Int32.ofInt 0) → (mm_s SL xs (d + 2) 239 [.long a1] (hp p s q I J) (fun r_ h_ => ∃ x1 I1 J1, r_ = some (.int x1) ∧ h_ = hp p s q I1 J1 ∧ w_X11_first_26 SL xs d p s q Q a0 a1 x1 (Int32.ofInt 1) I1 J1))))))) : mm_s SL xs (d + 3) 242 [.ref 65, .int a0, .long a1] (hp p s q I J) Q := by
  refine e_X11_first rfl ?_
  refine hs_L (L2 := [some (.ref 65), some (.int a0), some (.long a1), none, none, none]) rfl ?_
  refine sp_iload_n 1 rfl rfl rfl ?_
  refine sc_S 4 rfl rfl rfl rfl (Nat.le_refl _) (Nat.le_refl _) rfl ?_
  refine cx_X11_isSmall ?_
  refine hs_S (st2 := [.int (sx_X11_isSmall a0)]) rfl ?_
  refine sp_if_eq 7 rfl rfl (fun q_ => ?_) (fun q_ => ?_)
  · have k := k.1 q_
    refine sp_iconst 16 rfl rfl ?_
    exact st_iret rfl rfl (Nat.le_refl _) (Nat.le_refl _) k
  · have k := k.2 q_
    refine sp_lload_n 8 rfl rfl rfl ?_
    refine sp_iload_n 9 rfl rfl rfl ?_
    refine sc_S 12 rfl rfl rfl rfl (Nat.le_refl _) (Nat.le_refl _) rfl ?_
    refine cx_X11_isSet ?_
    refine hs_S (st2 := [.int (sx_X11_isSet a1 a0)]) rfl ?_
    refine sp_if_ne 15 rfl rfl (fun q_ => ?_) (fun q_ => ?_)
    · have k := k.2 q_
      refine sp_lload_n 18 rfl rfl rfl ?_
      refine sc_S 21 rfl rfl rfl rfl (Nat.le_refl _) (Nat.le_refl _) rfl ?_
      refine mm_s_mono _ _ _ _ _ _ ?_ k
      rintro r_ h_ ⟨x1, I1, J1, rfl, rfl, k⟩
      refine hs_S (st2 := [.int x1]) rfl ?_
      refine hs_istore 23 (L2 := [some (.ref 65), some (.int a0), some (.long a1), none, some (.int x1), none]) rfl rfl rfl rfl ?_
      refine sp_iconst 24 rfl rfl ?_
      refine hs_istore 26 (L2 := [some (.ref 65), some (.int a0), some (.long a1), none, some (.int x1), some (.int (Int32.ofInt 1))]) rfl rfl rfl rfl ?_
      exact k
    · have k := k.1 q_
      refine sp_iconst 16 rfl rfl ?_
      exact st_iret rfl rfl (Nat.le_refl _) (Nat.le_refl _) k
theorem sg_X11_first_26 {SL : Nat} {xs : Nat → Int32} {d : Nat} {p s q : Nat} {Q : Option Value → mm_H → Prop} {v1 : Int32} {v2 : Int64} {v4 : Int32} {v5 : Int32} {I : Nat → Nat → Int32} {J : Nat → Nat → Int64}  (k : (((Int32.ofInt 3000) < v5 → Q (some (.int (Int32.ofInt (-1)))) (hp p s q I J)) ∧ (¬ ((Int32.ofInt 3000) < v5) → (mm_s SL xs (d + 2) 240 [.int v1, .int v5, .long v2, .int (Int32.ofInt 1), .int v4] (hp p s q I J) (fun r_ h_ => ∃ x1 I1 J1, r_ = some (.int x1) ∧ h_ = hp p s q I1 J1 ∧ ((x1 = Int32.ofInt 0 → w_X11_first_26 SL xs d p s q Q v1 v2 v4 (v5 + Int32.ofInt 1) I1 J1) ∧ (¬ (x1 = Int32.ofInt 0) → Q (some (.int v5)) (hp p s q I1 J1)))))))) : w_X11_first_26 SL xs d p s q Q v1 v2 v4 v5 I J := by
  unfold w_X11_first_26
  refine sp_iload 28 rfl rfl rfl ?_
  refine sp_sipush 31 rfl rfl ?_
  refine sp_I (y := Int32.ofInt 3000) rfl ?_
  refine sp_ic_gt 34 rfl rfl (fun q_ => ?_) (fun q_ => ?_)
  · have k := k.1 q_
    refine sp_iconst 57 rfl rfl ?_
    exact st_iret rfl rfl (Nat.le_refl _) (Nat.le_refl _) k
  · have k := k.2 q_
    refine sp_iload_n 35 rfl rfl rfl ?_
    refine sp_iload 37 rfl rfl rfl ?_
    refine sp_lload_n 38 rfl rfl rfl ?_
    refine sp_iconst 39 rfl rfl ?_
    refine sp_iload 41 rfl rfl rfl ?_
    refine sc_S 44 rfl rfl rfl rfl (Nat.le_refl _) (Nat.le_refl _) rfl ?_
    refine mm_s_mono _ _ _ _ _ _ ?_ k
    rintro r_ h_ ⟨x1, I1, J1, rfl, rfl, k⟩
    refine hs_S (st2 := [.int x1]) rfl ?_
    refine sp_if_eq 47 rfl rfl (fun q_ => ?_) (fun q_ => ?_)
    · have k := k.1 q_
      refine hs_iinc 53 (L2 := [some (.ref 65), some (.int v1), some (.long v2), none, some (.int v4), some (.int (v5 + Int32.ofInt 1))]) rfl rfl rfl rfl rfl ?_
      refine sp_goto rfl ?_
      exact k
    · have k := k.2 q_
      refine sp_iload 49 rfl rfl rfl ?_
      exact st_iret rfl rfl (Nat.le_refl _) (Nat.le_refl _) k
def w_X11_never_29 (SL : Nat) (xs : Nat → Int32) (d : Nat) (p s q : Nat) (Q : Option Value → mm_H → Prop) (v1 : Int32) (v2 : Int32) (v3 : Int64) (v5 : Int32) (I : Nat → Nat → Int32) (J : Nat → Nat → Int64) : Prop := mm_w SL xs (mm_s SL xs (d + 2)) mm_am kX11_never 0 0 (some .long) Q 29 [some (.ref 65), some (.int v1), some (.int v2), some (.long v3), none, some (.int v5)] [] (hp p s q I J) 0 0
theorem sg_X11_never {SL : Nat} {xs : Nat → Int32} {d : Nat} {p s q : Nat} {Q : Option Value → mm_H → Prop} {a0 : Int32} {a1 : Int32} {I : Nat → Nat → Int32} {J : Nat → Nat → Int64}  (k : (((sx_X11_isSmall a0) = Int32.ofInt 0 → Q (some (.long (Int64.ofInt (-1)))) (hp p s q I J)) ∧ (¬ ((sx_X11_isSmall a0) = Int32.ofInt 0) → (((sx_X11_areNumbers a1) = Int32.ofInt 0 → Q (some (.long (Int64.ofInt (-1)))) (hp p s q I J)) ∧ (¬ ((sx_X11_areNumbers a1) = Int32.ofInt 0) → (mm_s SL xs (d + 2) 250 [.ref 65, .int a0, .int a1] (hp p s q I J) (fun r_ h_ => ∃ I1 J1, r_ = none ∧ h_ = hp p s q I1 J1 ∧ w_X11_never_29 SL xs d p s q Q a0 a1 (Int64.ofInt 0) (Int32.ofInt 0) I1 J1))))))) : mm_s SL xs (d + 3) 251 [.ref 65, .int a0, .int a1] (hp p s q I J) Q := by
  refine e_X11_never rfl ?_
  refine hs_L (L2 := [some (.ref 65), some (.int a0), some (.int a1), none, none, none]) rfl ?_
  refine sp_iload_n 1 rfl rfl rfl ?_
  refine sc_S 4 rfl rfl rfl rfl (Nat.le_refl _) (Nat.le_refl _) rfl ?_
  refine cx_X11_isSmall ?_
  refine hs_S (st2 := [.int (sx_X11_isSmall a0)]) rfl ?_
  refine sp_if_eq 7 rfl rfl (fun q_ => ?_) (fun q_ => ?_)
  · have k := k.1 q_
    refine sp_ldc2 17 rfl rfl ?_
    exact st_lret rfl rfl (Nat.le_refl _) (Nat.le_refl _) k
  · have k := k.2 q_
    refine sp_iload_n 8 rfl rfl rfl ?_
    refine sc_S 11 rfl rfl rfl rfl (Nat.le_refl _) (Nat.le_refl _) rfl ?_
    refine cx_X11_areNumbers ?_
    refine hs_S (st2 := [.int (sx_X11_areNumbers a1)]) rfl ?_
    refine sp_if_ne 14 rfl rfl (fun q_ => ?_) (fun q_ => ?_)
    · have k := k.2 q_
      refine sp_aload_n 19 rfl rfl rfl ?_
      refine sp_iload_n 20 rfl rfl rfl ?_
      refine sp_iload_n 21 rfl rfl rfl ?_
      refine sc_V 24 rfl rfl rfl rfl rfl (Nat.le_refl _) (Nat.le_refl _) rfl ?_
      refine mm_s_mono _ _ _ _ _ _ ?_ k
      rintro r_ h_ ⟨I1, J1, rfl, rfl, k⟩
      refine hs_S (st2 := []) rfl ?_
      refine sp_lconst 25 rfl rfl ?_
      refine sp_J (y := Int64.ofInt 0) rfl ?_
      refine hs_lstore_n 26 (L2 := [some (.ref 65), some (.int a0), some (.int a1), some (.long (Int64.ofInt 0)), none, none]) rfl rfl rfl rfl ?_
      refine sp_iconst 27 rfl rfl ?_
      refine hs_istore 29 (L2 := [some (.ref 65), some (.int a0), some (.int a1), some (.long (Int64.ofInt 0)), none, some (.int (Int32.ofInt 0))]) rfl rfl rfl rfl ?_
      exact k
    · have k := k.1 q_
      refine sp_ldc2 17 rfl rfl ?_
      exact st_lret rfl rfl (Nat.le_refl _) (Nat.le_refl _) k
theorem sg_X11_never_29 {SL : Nat} {xs : Nat → Int32} {d : Nat} {p s q : Nat} {Q : Option Value → mm_H → Prop} {v1 : Int32} {v2 : Int32} {v3 : Int64} {v5 : Int32} {I : Nat → Nat → Int32} {J : Nat → Nat → Int64}  (k : ((v1 ≤ v5 → Q (some (.long v3)) (hp p s q I J)) ∧ (¬ (v1 ≤ v5) → (vp_in v5 60 ∧ (((I 99 ((v5).toNatClampNeg)) = Int32.ofInt 0 → w_X11_never_29 SL xs d p s q Q v1 v2 (v3 ||| ((Int64.ofInt 1) <<< ((v5).toInt64 &&& 63))) (v5 + Int32.ofInt 1) I J) ∧ (¬ ((I 99 ((v5).toNatClampNeg)) = Int32.ofInt 0) → w_X11_never_29 SL xs d p s q Q v1 v2 (v3 ||| (Int64.ofInt 0)) (v5 + Int32.ofInt 1) I J)))))) : w_X11_never_29 SL xs d p s q Q v1 v2 v3 v5 I J := by
  unfold w_X11_never_29
  refine sp_iload 31 rfl rfl rfl ?_
  refine sp_iload_n 32 rfl rfl rfl ?_
  refine sp_ic_ge 35 rfl rfl (fun q_ => ?_) (fun q_ => ?_)
  · have k := k.1 q_
    refine sp_lload_n 63 rfl rfl rfl ?_
    exact st_lret rfl rfl (Nat.le_refl _) (Nat.le_refl _) k
  · have k := k.2 q_
    refine sp_lload_n 36 rfl rfl rfl ?_
    refine sp_aload_n 37 rfl rfl rfl ?_
    refine hq_getR 40 rfl rfl rfl rfl ?_
    refine sp_iload 42 rfl rfl rfl ?_
    have n1_ := k.1
    have k := k.2
    refine hq_iald 43 rfl rfl n1_ rfl ?_
    refine sp_if_ne 46 rfl rfl (fun q_ => ?_) (fun q_ => ?_)
    · have k := k.2 q_
      refine sp_lconst 54 rfl rfl ?_
      refine sp_J (y := Int64.ofInt 0) rfl ?_
      refine sp_lor 55 rfl rfl ?_
      refine hs_lstore_n 56 (L2 := [some (.ref 65), some (.int v1), some (.int v2), some (.long (v3 ||| (Int64.ofInt 0))), none, some (.int v5)]) rfl rfl rfl rfl ?_
      refine hs_iinc 59 (L2 := [some (.ref 65), some (.int v1), some (.int v2), some (.long (v3 ||| (Int64.ofInt 0))), none, some (.int (v5 + Int32.ofInt 1))]) rfl rfl rfl rfl rfl ?_
      refine sp_goto rfl ?_
      exact k
    · have k := k.1 q_
      refine sp_lconst 47 rfl rfl ?_
      refine sp_J (y := Int64.ofInt 1) rfl ?_
      refine sp_iload 49 rfl rfl rfl ?_
      refine sp_lshl 50 rfl rfl ?_
      refine sp_goto rfl ?_
      refine sp_lor 55 rfl rfl ?_
      refine hs_lstore_n 56 (L2 := [some (.ref 65), some (.int v1), some (.int v2), some (.long (v3 ||| ((Int64.ofInt 1) <<< ((v5).toInt64 &&& 63)))), none, some (.int v5)]) rfl rfl rfl rfl ?_
      refine hs_iinc 59 (L2 := [some (.ref 65), some (.int v1), some (.int v2), some (.long (v3 ||| ((Int64.ofInt 1) <<< ((v5).toInt64 &&& 63)))), none, some (.int (v5 + Int32.ofInt 1))]) rfl rfl rfl rfl rfl ?_
      refine sp_goto rfl ?_
      exact k
def w_X11_often_37 (SL : Nat) (xs : Nat → Int32) (d : Nat) (p s q : Nat) (Q : Option Value → mm_H → Prop) (v1 : Int32) (v2 : Int32) (v3 : Int32) (v4 : Int32) (v5 : Int32) (I : Nat → Nat → Int32) (J : Nat → Nat → Int64) : Prop := mm_w SL xs (mm_s SL xs (d + 2)) mm_am kX11_often 0 0 (some .int) Q 37 [some (.ref 65), some (.int v1), some (.int v2), some (.int v3), some (.int v4), some (.int v5)] [] (hp p s q I J) 0 0
theorem sg_X11_often {SL : Nat} {xs : Nat → Int32} {d : Nat} {p s q : Nat} {Q : Option Value → mm_H → Prop} {a0 : Int32} {a1 : Int32} {a2 : Int32} {I : Nat → Nat → Int32} {J : Nat → Nat → Int64}  (k : (((sx_X11_isSmall a0) = Int32.ofInt 0 → Q (some (.int (Int32.ofInt (-1)))) (hp p s q I J)) ∧ (¬ ((sx_X11_isSmall a0) = Int32.ofInt 0) → (((sx_X11_areNumbers a1) = Int32.ofInt 0 → Q (some (.int (Int32.ofInt (-1)))) (hp p s q I J)) ∧ (¬ ((sx_X11_areNumbers a1) = Int32.ofInt 0) → ((a2 < Int32.ofInt 0 → Q (some (.int (Int32.ofInt (-1)))) (hp p s q I J)) ∧ (¬ (a2 < Int32.ofInt 0) → ((a2 ≤ (Int32.ofInt 1) → (mm_s SL xs (d + 2) 250 [.ref 65, .int a0, .int a1] (hp p s q I J) (fun r_ h_ => ∃ I1 J1, r_ = none ∧ h_ = hp p s q I1 J1 ∧ w_X11_often_37 SL xs d p s q Q a0 a1 a2 (Int32.ofInt 0) (Int32.ofInt 1) I1 J1))) ∧ (¬ (a2 ≤ (Int32.ofInt 1)) → Q (some (.int (Int32.ofInt (-1)))) (hp p s q I J)))))))))) : mm_s SL xs (d + 3) 252 [.ref 65, .int a0, .int a1, .int a2] (hp p s q I J) Q := by
  refine e_X11_often rfl ?_
  refine hs_L (L2 := [some (.ref 65), some (.int a0), some (.int a1), some (.int a2), none, none]) rfl ?_
  refine sp_iload_n 1 rfl rfl rfl ?_
  refine sc_S 4 rfl rfl rfl rfl (Nat.le_refl _) (Nat.le_refl _) rfl ?_
  refine cx_X11_isSmall ?_
  refine hs_S (st2 := [.int (sx_X11_isSmall a0)]) rfl ?_
  refine sp_if_eq 7 rfl rfl (fun q_ => ?_) (fun q_ => ?_)
  · have k := k.1 q_
    refine sp_iconst 24 rfl rfl ?_
    exact st_iret rfl rfl (Nat.le_refl _) (Nat.le_refl _) k
  · have k := k.2 q_
    refine sp_iload_n 8 rfl rfl rfl ?_
    refine sc_S 11 rfl rfl rfl rfl (Nat.le_refl _) (Nat.le_refl _) rfl ?_
    refine cx_X11_areNumbers ?_
    refine hs_S (st2 := [.int (sx_X11_areNumbers a1)]) rfl ?_
    refine sp_if_eq 14 rfl rfl (fun q_ => ?_) (fun q_ => ?_)
    · have k := k.1 q_
      refine sp_iconst 24 rfl rfl ?_
      exact st_iret rfl rfl (Nat.le_refl _) (Nat.le_refl _) k
    · have k := k.2 q_
      refine sp_iload_n 15 rfl rfl rfl ?_
      refine sp_if_lt 18 rfl rfl (fun q_ => ?_) (fun q_ => ?_)
      · have k := k.1 q_
        refine sp_iconst 24 rfl rfl ?_
        exact st_iret rfl rfl (Nat.le_refl _) (Nat.le_refl _) k
      · have k := k.2 q_
        refine sp_iload_n 19 rfl rfl rfl ?_
        refine sp_iconst 20 rfl rfl ?_
        refine sp_ic_le 23 rfl rfl (fun q_ => ?_) (fun q_ => ?_)
        · have k := k.1 q_
          refine sp_aload_n 26 rfl rfl rfl ?_
          refine sp_iload_n 27 rfl rfl rfl ?_
          refine sp_iload_n 28 rfl rfl rfl ?_
          refine sc_V 31 rfl rfl rfl rfl rfl (Nat.le_refl _) (Nat.le_refl _) rfl ?_
          refine mm_s_mono _ _ _ _ _ _ ?_ k
          rintro r_ h_ ⟨I1, J1, rfl, rfl, k⟩
          refine hs_S (st2 := []) rfl ?_
          refine sp_iconst 32 rfl rfl ?_
          refine hs_istore 34 (L2 := [some (.ref 65), some (.int a0), some (.int a1), some (.int a2), some (.int (Int32.ofInt 0)), none]) rfl rfl rfl rfl ?_
          refine sp_iconst 35 rfl rfl ?_
          refine hs_istore 37 (L2 := [some (.ref 65), some (.int a0), some (.int a1), some (.int a2), some (.int (Int32.ofInt 0)), some (.int (Int32.ofInt 1))]) rfl rfl rfl rfl ?_
          exact k
        · have k := k.2 q_
          refine sp_iconst 24 rfl rfl ?_
          exact st_iret rfl rfl (Nat.le_refl _) (Nat.le_refl _) k
theorem sg_X11_often_37 {SL : Nat} {xs : Nat → Int32} {d : Nat} {p s q : Nat} {Q : Option Value → mm_H → Prop} {v1 : Int32} {v2 : Int32} {v3 : Int32} {v4 : Int32} {v5 : Int32} {I : Nat → Nat → Int32} {J : Nat → Nat → Int64}  (k : ((v1 ≤ v5 → ((v3 = Int32.ofInt 0 → Q (some (.int v4)) (hp p s q I J)) ∧ (¬ (v3 = Int32.ofInt 0) → (vp_in v4 60 ∧ Q (some (.int (I 99 ((v4).toNatClampNeg)))) (hp p s q I J))))) ∧ (¬ (v1 ≤ v5) → (vp_in v5 60 ∧ (vp_in v4 60 ∧ (((I 99 ((v5).toNatClampNeg)) ≤ (I 99 ((v4).toNatClampNeg)) → w_X11_often_37 SL xs d p s q Q v1 v2 v3 v4 (v5 + Int32.ofInt 1) I J) ∧ (¬ ((I 99 ((v5).toNatClampNeg)) ≤ (I 99 ((v4).toNatClampNeg))) → w_X11_often_37 SL xs d p s q Q v1 v2 v3 v5 (v5 + Int32.ofInt 1) I J))))))) : w_X11_often_37 SL xs d p s q Q v1 v2 v3 v4 v5 I J := by
  unfold w_X11_often_37
  refine sp_iload 39 rfl rfl rfl ?_
  refine sp_iload_n 40 rfl rfl rfl ?_
  refine sp_ic_ge 43 rfl rfl (fun q_ => ?_) (fun q_ => ?_)
  · have k := k.1 q_
    refine sp_iload_n 71 rfl rfl rfl ?_
    refine sp_if_ne 74 rfl rfl (fun q_ => ?_) (fun q_ => ?_)
    · have k := k.2 q_
      refine sp_aload_n 80 rfl rfl rfl ?_
      refine hq_getR 83 rfl rfl rfl rfl ?_
      refine sp_iload 85 rfl rfl rfl ?_
      have n1_ := k.1
      have k := k.2
      refine hq_iald 86 rfl rfl n1_ rfl ?_
      exact st_iret rfl rfl (Nat.le_refl _) (Nat.le_refl _) k
    · have k := k.1 q_
      refine sp_iload 76 rfl rfl rfl ?_
      refine sp_goto rfl ?_
      exact st_iret rfl rfl (Nat.le_refl _) (Nat.le_refl _) k
  · have k := k.2 q_
    refine sp_aload_n 44 rfl rfl rfl ?_
    refine hq_getR 47 rfl rfl rfl rfl ?_
    refine sp_iload 49 rfl rfl rfl ?_
    have n2_ := k.1
    have k := k.2
    refine hq_iald 50 rfl rfl n2_ rfl ?_
    refine sp_aload_n 51 rfl rfl rfl ?_
    refine hq_getR 54 rfl rfl rfl rfl ?_
    refine sp_iload 56 rfl rfl rfl ?_
    have n3_ := k.1
    have k := k.2
    refine hq_iald 57 rfl rfl n3_ rfl ?_
    refine sp_ic_le 60 rfl rfl (fun q_ => ?_) (fun q_ => ?_)
    · have k := k.1 q_
      refine hs_iinc 67 (L2 := [some (.ref 65), some (.int v1), some (.int v2), some (.int v3), some (.int v4), some (.int (v5 + Int32.ofInt 1))]) rfl rfl rfl rfl rfl ?_
      refine sp_goto rfl ?_
      exact k
    · have k := k.2 q_
      refine sp_iload 62 rfl rfl rfl ?_
      refine hs_istore 64 (L2 := [some (.ref 65), some (.int v1), some (.int v2), some (.int v3), some (.int v5), some (.int v5)]) rfl rfl rfl rfl ?_
      refine hs_iinc 67 (L2 := [some (.ref 65), some (.int v1), some (.int v2), some (.int v3), some (.int v5), some (.int (v5 + Int32.ofInt 1))]) rfl rfl rfl rfl rfl ?_
      refine sp_goto rfl ?_
      exact k
