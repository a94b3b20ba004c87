def w_X11_token_0 (SL : Nat) (xs : Nat → Int32) (d : Nat) (p s q : Nat) (Q : Option Value → mm_H → Prop)  (I : Nat → Nat → Int32) (J : Nat → Nat → Int64) : Prop := mm_w SL xs (mm_s SL xs (d + 1)) mm_am kX11_token 0 0 none Q 0 [some (.ref 65), none, none] [] (hp p s q I J) 0 0
def w_X11_token_78 (SL : Nat) (xs : Nat → Int32) (d : Nat) (p s q : Nat) (Q : Option Value → mm_H → Prop) (v1 : Int32) (v2 : Int32) (I : Nat → Nat → Int32) (J : Nat → Nat → Int64) : Prop := mm_w SL xs (mm_s SL xs (d + 1)) mm_am kX11_token 0 0 none Q 78 [some (.ref 65), some (.int v1), some (.int v2)] [] (hp p s q I J) 0 0
def w_X11_token_149 (SL : Nat) (xs : Nat → Int32) (d : Nat) (p s q : Nat) (Q : Option Value → mm_H → Prop) (v1 : Int32) (v2 : Int32) (I : Nat → Nat → Int32) (J : Nat → Nat → Int64) : Prop := mm_w SL xs (mm_s SL xs (d + 1)) mm_am kX11_token 0 0 none Q 149 [some (.ref 65), some (.int v1), some (.int v2)] [] (hp p s q I J) 0 0
theorem sg_X11_token_0 {SL : Nat} {xs : Nat → Int32} {d : Nat} {p s q : Nat} {Q : Option Value → mm_H → Prop}  {I : Nat → Nat → Int32} {J : Nat → Nat → Int64}  (k : (mm_s SL xs (d + 1) 168 [.ref 65, .int (Int32.ofInt 0)] (hp p s q I J) (fun r_ h_ => ∃ x1 I1 J1, r_ = some (.int x1) ∧ h_ = hp p s q I1 J1 ∧ ((x1 = (Int32.ofInt 32) → w_X11_token_0 SL xs d p s q Q  (mm_u I1 65 4 ((I1 65 4) + (Int32.ofInt 1))) J1) ∧ (¬ (x1 = (Int32.ofInt 32)) → (mm_s SL xs (d + 1) 168 [.ref 65, .int (Int32.ofInt 0)] (hp p s q I1 J1) (fun r_ h_ => ∃ x2 I2 J2, r_ = some (.int x2) ∧ h_ = hp p s q I2 J2 ∧ ((x2 = (Int32.ofInt 10) → w_X11_token_0 SL xs d p s q Q  (mm_u I2 65 4 ((I2 65 4) + (Int32.ofInt 1))) J2) ∧ (¬ (x2 = (Int32.ofInt 10)) → (mm_s SL xs (d + 1) 168 [.ref 65, .int (Int32.ofInt 0)] (hp p s q (mm_u I2 65 7 (I2 65 4)) J2) (fun r_ h_ => ∃ x3 I3 J3, r_ = some (.int x3) ∧ h_ = hp p s q I3 J3 ∧ ((Int32.ofInt 0 ≤ x3 → (((sx_X11_isLetter x3) = Int32.ofInt 0 → (((sx_X11_isDigit x3) = Int32.ofInt 0 → (((sx_X11_isSign x3) = Int32.ofInt 0 → Q none (hp p s q (mm_u (mm_u I3 65 8 (Int32.ofInt 0)) 65 6 (Int32.ofInt 3)) (mm_u J3 65 9 (Int64.ofInt 0)))) ∧ (¬ ((sx_X11_isSign x3) = Int32.ofInt 0) → ((x3 = (Int32.ofInt 3) → Q none (hp p s q (mm_u (mm_u I3 65 8 (Int32.ofInt 0)) 65 6 x3) (mm_u J3 65 9 (Int64.ofInt 0)))) ∧ (¬ (x3 = (Int32.ofInt 3)) → Q none (hp p s q (mm_u (mm_u (mm_u I3 65 8 (Int32.ofInt 0)) 65 6 x3) 65 4 ((I3 65 4) + (Int32.ofInt 1))) (mm_u J3 65 9 (Int64.ofInt 0)))))))) ∧ (¬ ((sx_X11_isDigit x3) = Int32.ofInt 0) → w_X11_token_149 SL xs d p s q Q x3 (Int32.ofInt 0) (mm_u I3 65 8 (Int32.ofInt 0)) (mm_u J3 65 9 (Int64.ofInt 0))))) ∧ (¬ ((sx_X11_isLetter x3) = Int32.ofInt 0) → w_X11_token_78 SL xs d p s q Q x3 (Int32.ofInt 0) (mm_u I3 65 8 (Int32.ofInt 0)) (mm_u J3 65 9 (Int64.ofInt 0))))) ∧ (¬ (Int32.ofInt 0 ≤ x3) → Q none (hp p s q (mm_u (mm_u (mm_u I3 65 8 (Int32.ofInt 0)) 65 6 (Int32.ofInt 0)) 65 4 ((I3 65 4) + (Int32.ofInt 0))) (mm_u J3 65 9 (Int64.ofInt 0)))))))))))))))) : w_X11_token_0 SL xs d p s q Q  I J := by
  unfold w_X11_token_0
  refine sp_aload_n 1 rfl rfl rfl ?_
  refine sp_iconst 2 rfl rfl ?_
  refine sc_V 5 rfl rfl rfl rfl rfl (Nat.le_refl _) (Nat.le_refl _) rfl ?_
  refine mm_s_mono _ _ _ _ _ _ ?_ k
  rintro r_ h_ ⟨x1, I1, J1, rfl, rfl, k⟩
  refine hs_S (st2 := [.int x1]) rfl ?_
  refine sp_bipush 7 rfl rfl ?_
  refine sp_I (y := Int32.ofInt 32) rfl ?_
  refine sp_ic_eq 10 rfl rfl (fun q_ => ?_) (fun q_ => ?_)
  · have k := k.1 q_
    refine sp_aload_n 21 rfl rfl rfl ?_
    refine sp_dup 22 rfl rfl rfl ?_
    refine hq_getI 25 rfl rfl rfl ?_
    refine sp_iconst 26 rfl rfl ?_
    refine sp_iadd 27 rfl rfl ?_
    refine hq_putI 30 rfl rfl rfl ?_
    refine sp_goto rfl ?_
    exact k
  · have k := k.2 q_
    refine sp_aload_n 11 rfl rfl rfl ?_
    refine sp_iconst 12 rfl rfl ?_
    refine sc_V 15 rfl rfl rfl rfl rfl (Nat.le_refl _) (Nat.le_refl _) rfl ?_
    refine mm_s_mono _ _ _ _ _ _ ?_ k
    rintro r_ h_ ⟨x2, I2, J2, rfl, rfl, k⟩
    refine hs_S (st2 := [.int x2]) rfl ?_
    refine sp_bipush 17 rfl rfl ?_
    refine sp_I (y := Int32.ofInt 10) rfl ?_
    refine sp_ic_ne 20 rfl rfl (fun q_ => ?_) (fun q_ => ?_)
    · have k := k.2 q_
      refine sp_aload_n 34 rfl rfl rfl ?_
      refine sp_aload_n 35 rfl rfl rfl ?_
      refine hq_getI 38 rfl rfl rfl ?_
      refine hq_putI 41 rfl rfl rfl ?_
      refine sp_aload_n 42 rfl rfl rfl ?_
      refine sp_iconst 43 rfl rfl ?_
      refine sc_V 46 rfl rfl rfl rfl rfl (Nat.le_refl _) (Nat.le_refl _) rfl ?_
      refine mm_s_mono _ _ _ _ _ _ ?_ k
      rintro r_ h_ ⟨x3, I3, J3, rfl, rfl, k⟩
      refine hs_S (st2 := [.int x3]) rfl ?_
      refine hs_istore_n 47 (L2 := [some (.ref 65), some (.int x3), none]) rfl rfl rfl rfl ?_
      refine sp_iconst 48 rfl rfl ?_
      refine hs_istore_n 49 (L2 := [some (.ref 65), some (.int x3), some (.int (Int32.ofInt 0))]) rfl rfl rfl rfl ?_
      refine sp_aload_n 50 rfl rfl rfl ?_
      refine sp_lconst 51 rfl rfl ?_
      refine sp_J (y := Int64.ofInt 0) rfl ?_
      refine hq_putJ 54 rfl rfl rfl ?_
      refine sp_aload_n 55 rfl rfl rfl ?_
      refine sp_iconst 56 rfl rfl ?_
      refine hq_putI 59 rfl rfl rfl ?_
      refine sp_iload_n 60 rfl rfl rfl ?_
      refine sp_if_ge 63 rfl rfl (fun q_ => ?_) (fun q_ => ?_)
      · have k := k.1 q_
        refine sp_iload_n 72 rfl rfl rfl ?_
        refine sc_S 75 rfl rfl rfl rfl (Nat.le_refl _) (Nat.le_refl _) rfl ?_
        refine cx_X11_isLetter ?_
        refine hs_S (st2 := [.int (sx_X11_isLetter x3)]) rfl ?_
        refine sp_if_eq 78 rfl rfl (fun q_ => ?_) (fun q_ => ?_)
        · have k := k.1 q_
          refine sp_iload_n 143 rfl rfl rfl ?_
          refine sc_S 146 rfl rfl rfl rfl (Nat.le_refl _) (Nat.le_refl _) rfl ?_
          refine cx_X11_isDigit ?_
          refine hs_S (st2 := [.int (sx_X11_isDigit x3)]) rfl ?_
          refine sp_if_eq 149 rfl rfl (fun q_ => ?_) (fun q_ => ?_)
          · have k := k.1 q_
            refine sp_iconst 220 rfl rfl ?_
            refine hs_istore_n 221 (L2 := [some (.ref 65), some (.int x3), some (.int (Int32.ofInt 1))]) rfl rfl rfl rfl ?_
            refine sp_aload_n 222 rfl rfl rfl ?_
            refine sp_iload_n 223 rfl rfl rfl ?_
            refine sc_S 226 rfl rfl rfl rfl (Nat.le_refl _) (Nat.le_refl _) rfl ?_
            refine cx_X11_isSign ?_
            refine hs_S (st2 := [.int (sx_X11_isSign x3), .ref 65]) rfl ?_
            refine sp_if_eq 229 rfl rfl (fun q_ => ?_) (fun q_ => ?_)
            · have k := k.1 q_
              refine sp_iconst 234 rfl rfl ?_
              refine hq_putI 237 rfl rfl rfl ?_
              refine sp_aload_n 238 rfl rfl rfl ?_
              refine hq_getI 241 rfl rfl rfl ?_
              refine sp_I (y := Int32.ofInt 3) (by simp [mm_u]) ?_
              refine sp_iconst 242 rfl rfl ?_
              refine sp_ic_eq 245 rfl rfl (fun _ => ?_) (fun q_ => absurd q_ (by decide))
              exact st_vret rfl rfl (Nat.le_refl _) (Nat.le_refl _) k
            · have k := k.2 q_
              refine sp_iload_n 230 rfl rfl rfl ?_
              refine sp_goto rfl ?_
              refine hq_putI 237 rfl rfl rfl ?_
              refine sp_aload_n 238 rfl rfl rfl ?_
              refine hq_getI 241 rfl rfl rfl ?_
              refine sp_I (y := x3) (by simp [mm_u]) ?_
              refine sp_iconst 242 rfl rfl ?_
              refine sp_ic_eq 245 rfl rfl (fun q_ => ?_) (fun q_ => ?_)
              · have k := k.1 q_
                exact st_vret rfl rfl (Nat.le_refl _) (Nat.le_refl _) k
              · have k := k.2 q_
                refine sp_aload_n 246 rfl rfl rfl ?_
                refine sp_dup 247 rfl rfl rfl ?_
                refine hq_getI 250 rfl rfl rfl ?_
                refine sp_I (y := (I3 65 4)) (by simp [mm_u]) ?_
                refine sp_iload_n 251 rfl rfl rfl ?_
                refine sp_iadd 252 rfl rfl ?_
                refine hq_putI 255 rfl rfl rfl ?_
                exact st_vret rfl rfl (Nat.le_refl _) (Nat.le_refl _) k
          · have k := k.2 q_
            exact k
        · have k := k.2 q_
          exact k
      · have k := k.2 q_
        refine sp_aload_n 64 rfl rfl rfl ?_
        refine sp_iconst 65 rfl rfl ?_
        refine hq_putI 68 rfl rfl rfl ?_
        refine sp_goto rfl ?_
        refine sp_aload_n 238 rfl rfl rfl ?_
        refine hq_getI 241 rfl rfl rfl ?_
        refine sp_I (y := Int32.ofInt 0) (by simp [mm_u]) ?_
        refine sp_iconst 242 rfl rfl ?_
        refine sp_ic_eq 245 rfl rfl (fun q_ => absurd q_ (by decide)) (fun _ => ?_)
        refine sp_aload_n 246 rfl rfl rfl ?_
        refine sp_dup 247 rfl rfl rfl ?_
        refine hq_getI 250 rfl rfl rfl ?_
        refine sp_I (y := (I3 65 4)) (by simp [mm_u]) ?_
        refine sp_iload_n 251 rfl rfl rfl ?_
        refine sp_iadd 252 rfl rfl ?_
        refine hq_putI 255 rfl rfl rfl ?_
        exact st_vret rfl rfl (Nat.le_refl _) (Nat.le_refl _) k
    · have k := k.1 q_
      refine sp_aload_n 21 rfl rfl rfl ?_
      refine sp_dup 22 rfl rfl rfl ?_
      refine hq_getI 25 rfl rfl rfl ?_
      refine sp_iconst 26 rfl rfl ?_
      refine sp_iadd 27 rfl rfl ?_
      refine hq_putI 30 rfl rfl rfl ?_
      refine sp_goto rfl ?_
      exact k
theorem sg_X11_token_78 {SL : Nat} {xs : Nat → Int32} {d : Nat} {p s q : Nat} {Q : Option Value → mm_H → Prop} {v1 : Int32} {v2 : Int32} {I : Nat → Nat → Int32} {J : Nat → Nat → Int64}  (k : (mm_s SL xs (d + 1) 168 [.ref 65, .int v2] (hp p s q I J) (fun r_ h_ => ∃ x1 I1 J1, r_ = some (.int x1) ∧ h_ = hp p s q I1 J1 ∧ (((sx_X11_isLetter x1) = Int32.ofInt 0 → ((v2 ≤ (Int32.ofInt 8) → Q none (hp p s q (mm_u (mm_u (mm_u I1 65 10 v2) 65 6 (Int32.ofInt 1)) 65 4 ((I1 65 4) + v2)) J1)) ∧ (¬ (v2 ≤ (Int32.ofInt 8)) → Q none (hp p s q (mm_u (mm_u I1 65 10 v2) 65 6 (Int32.ofInt 3)) J1)))) ∧ (¬ ((sx_X11_isLetter x1) = Int32.ofInt 0) → (((Int32.ofInt 8) ≤ v2 → w_X11_token_78 SL xs d p s q Q v1 (v2 + Int32.ofInt 1) I1 J1) ∧ (¬ ((Int32.ofInt 8) ≤ v2) → (mm_s SL xs (d + 1) 168 [.ref 65, .int v2] (hp p s q I1 J1) (fun r_ h_ => ∃ x2 I2 J2, r_ = some (.int x2) ∧ h_ = hp p s q I2 J2 ∧ w_X11_token_78 SL xs d p s q Q v1 (v2 + Int32.ofInt 1) I2 (mm_u J2 65 9 (((J1 65 9) <<< ((Int32.ofInt 8).toInt64 &&& 63)) ||| ((x2).toInt64)))))))))))) : w_X11_token_78 SL xs d p s q Q v1 v2 I J := by
  unfold w_X11_token_78
  refine sp_aload_n 79 rfl rfl rfl ?_
  refine sp_iload_n 80 rfl rfl rfl ?_
  refine sc_V 83 rfl rfl rfl rfl rfl (Nat.le_refl _) (Nat.le_refl _) rfl ?_
  refine mm_s_mono _ _ _ _ _ _ ?_ k
  rintro r_ h_ ⟨x1, I1, J1, rfl, rfl, k⟩
  refine hs_S (st2 := [.int x1]) rfl ?_
  refine sc_S 86 rfl rfl rfl rfl (Nat.le_refl _) (Nat.le_refl _) rfl ?_
  refine cx_X11_isLetter ?_
  refine hs_S (st2 := [.int (sx_X11_isLetter x1)]) rfl ?_
  refine sp_if_eq 89 rfl rfl (fun q_ => ?_) (fun q_ => ?_)
  · have k := k.1 q_
    refine sp_aload_n 120 rfl rfl rfl ?_
    refine sp_iload_n 121 rfl rfl rfl ?_
    refine hq_putI 124 rfl rfl rfl ?_
    refine sp_aload_n 125 rfl rfl rfl ?_
    refine sp_iload_n 126 rfl rfl rfl ?_
    refine sp_bipush 128 rfl rfl ?_
    refine sp_I (y := Int32.ofInt 8) rfl ?_
    refine sp_ic_le 131 rfl rfl (fun q_ => ?_) (fun q_ => ?_)
    · have k := k.1 q_
      refine sp_iconst 136 rfl rfl ?_
      refine hq_putI 139 rfl rfl rfl ?_
      refine sp_goto rfl ?_
      refine sp_aload_n 238 rfl rfl rfl ?_
      refine hq_getI 241 rfl rfl rfl ?_
      refine sp_I (y := Int32.ofInt 1) (by simp [mm_u]) ?_
      refine sp_iconst 242 rfl rfl ?_
      refine sp_ic_eq 245 rfl rfl (fun q_ => absurd q_ (by decide)) (fun _ => ?_)
      refine sp_aload_n 246 rfl rfl rfl ?_
      refine sp_dup 247 rfl rfl rfl ?_
      refine hq_getI 250 rfl rfl rfl ?_
      refine sp_I (y := (I1 65 4)) (by simp [mm_u]) ?_
      refine sp_iload_n 251 rfl rfl rfl ?_
      refine sp_iadd 252 rfl rfl ?_
      refine hq_putI 255 rfl rfl rfl ?_
      exact st_vret rfl rfl (Nat.le_refl _) (Nat.le_refl _) k
    · have k := k.2 q_
      refine sp_iconst 132 rfl rfl ?_
      refine sp_goto rfl ?_
      refine hq_putI 139 rfl rfl rfl ?_
      refine sp_goto rfl ?_
      refine sp_aload_n 238 rfl rfl rfl ?_
      refine hq_getI 241 rfl rfl rfl ?_
      refine sp_I (y := Int32.ofInt 3) (by simp [mm_u]) ?_
      refine sp_iconst 242 rfl rfl ?_
      refine sp_ic_eq 245 rfl rfl (fun _ => ?_) (fun q_ => absurd q_ (by decide))
      exact st_vret rfl rfl (Nat.le_refl _) (Nat.le_refl _) k
  · have k := k.2 q_
    refine sp_iload_n 90 rfl rfl rfl ?_
    refine sp_bipush 92 rfl rfl ?_
    refine sp_I (y := Int32.ofInt 8) rfl ?_
    refine sp_ic_ge 95 rfl rfl (fun q_ => ?_) (fun q_ => ?_)
    · have k := k.1 q_
      refine hs_iinc 116 (L2 := [some (.ref 65), some (.int v1), some (.int (v2 + Int32.ofInt 1))]) rfl rfl rfl rfl rfl ?_
      refine sp_goto rfl ?_
      exact k
    · have k := k.2 q_
      refine sp_aload_n 96 rfl rfl rfl ?_
      refine sp_aload_n 97 rfl rfl rfl ?_
      refine hq_getJ 100 rfl rfl rfl ?_
      refine sp_bipush 102 rfl rfl ?_
      refine sp_I (y := Int32.ofInt 8) rfl ?_
      refine sp_lshl 103 rfl rfl ?_
      refine sp_aload_n 104 rfl rfl rfl ?_
      refine sp_iload_n 105 rfl rfl rfl ?_
      refine sc_V 108 rfl rfl rfl rfl rfl (Nat.le_refl _) (Nat.le_refl _) rfl ?_
      refine mm_s_mono _ _ _ _ _ _ ?_ k
      rintro r_ h_ ⟨x2, I2, J2, rfl, rfl, k⟩
      refine hs_S (st2 := [.int x2, .long ((J1 65 9) <<< ((Int32.ofInt 8).toInt64 &&& 63)), .ref 65]) rfl ?_
      refine sp_i2l 109 rfl rfl ?_
      refine sp_lor 110 rfl rfl ?_
      refine hq_putJ 113 rfl rfl rfl ?_
      refine hs_iinc 116 (L2 := [some (.ref 65), some (.int v1), some (.int (v2 + Int32.ofInt 1))]) rfl rfl rfl rfl rfl ?_
      refine sp_goto rfl ?_
      exact k
theorem sg_X11_token_149 {SL : Nat} {xs : Nat → Int32} {d : Nat} {p s q : Nat} {Q : Option Value → mm_H → Prop} {v1 : Int32} {v2 : Int32} {I : Nat → Nat → Int32} {J : Nat → Nat → Int64}  (k : (mm_s SL xs (d + 1) 168 [.ref 65, .int v2] (hp p s q I J) (fun r_ h_ => ∃ x1 I1 J1, r_ = some (.int x1) ∧ h_ = hp p s q I1 J1 ∧ (((sx_X11_isDigit x1) = Int32.ofInt 0 → (((Int32.ofInt 4) < v2 → Q none (hp p s q (mm_u I1 65 6 (Int32.ofInt 3)) J1)) ∧ (¬ ((Int32.ofInt 4) < v2) → (mm_s SL xs (d + 1) 168 [.ref 65, .int v2] (hp p s q I1 J1) (fun r_ h_ => ∃ x2 I2 J2, r_ = some (.int x2) ∧ h_ = hp p s q I2 J2 ∧ (((sx_X11_isLetter x2) = Int32.ofInt 0 → Q none (hp p s q (mm_u (mm_u I2 65 6 (Int32.ofInt 2)) 65 4 ((I2 65 4) + v2)) J2)) ∧ (¬ ((sx_X11_isLetter x2) = Int32.ofInt 0) → Q none (hp p s q (mm_u I2 65 6 (Int32.ofInt 3)) J2)))))))) ∧ (¬ ((sx_X11_isDigit x1) = Int32.ofInt 0) → (((Int32.ofInt 4) ≤ v2 → w_X11_token_149 SL xs d p s q Q v1 (v2 + Int32.ofInt 1) I1 J1) ∧ (¬ ((Int32.ofInt 4) ≤ v2) → (mm_s SL xs (d + 1) 168 [.ref 65, .int v2] (hp p s q I1 J1) (fun r_ h_ => ∃ x3 I3 J3, r_ = some (.int x3) ∧ h_ = hp p s q I3 J3 ∧ w_X11_token_149 SL xs d p s q Q v1 (v2 + Int32.ofInt 1) (mm_u I3 65 8 ((((Int32.ofInt 10) * (I1 65 8)) + x3) - (Int32.ofInt 48))) J3))))))))) : w_X11_token_149 SL xs d p s q Q v1 v2 I J := by
  unfold w_X11_token_149
  refine sp_aload_n 150 rfl rfl rfl ?_
  refine sp_iload_n 151 rfl rfl rfl ?_
  refine sc_V 154 rfl rfl rfl rfl rfl (Nat.le_refl _) (Nat.le_refl _) rfl ?_
  refine mm_s_mono _ _ _ _ _ _ ?_ k
  rintro r_ h_ ⟨x1, I1, J1, rfl, rfl, k⟩
  refine hs_S (st2 := [.int x1]) rfl ?_
  refine sc_S 157 rfl rfl rfl rfl (Nat.le_refl _) (Nat.le_refl _) rfl ?_
  refine cx_X11_isDigit ?_
  refine hs_S (st2 := [.int (sx_X11_isDigit x1)]) rfl ?_
  refine sp_if_eq 160 rfl rfl (fun q_ => ?_) (fun q_ => ?_)
  · have k := k.1 q_
    refine sp_aload_n 192 rfl rfl rfl ?_
    refine sp_iload_n 193 rfl rfl rfl ?_
    refine sp_iconst 194 rfl rfl ?_
    refine sp_ic_gt 197 rfl rfl (fun q_ => ?_) (fun q_ => ?_)
    · have k := k.1 q_
      refine sp_iconst 209 rfl rfl ?_
      refine sp_goto rfl ?_
      refine hq_putI 216 rfl rfl rfl ?_
      refine sp_goto rfl ?_
      refine sp_aload_n 238 rfl rfl rfl ?_
      refine hq_getI 241 rfl rfl rfl ?_
      refine sp_I (y := Int32.ofInt 3) (by simp [mm_u]) ?_
      refine sp_iconst 242 rfl rfl ?_
      refine sp_ic_eq 245 rfl rfl (fun _ => ?_) (fun q_ => absurd q_ (by decide))
      exact st_vret rfl rfl (Nat.le_refl _) (Nat.le_refl _) k
    · have k := k.2 q_
      refine sp_aload_n 198 rfl rfl rfl ?_
      refine sp_iload_n 199 rfl rfl rfl ?_
      refine sc_V 202 rfl rfl rfl rfl rfl (Nat.le_refl _) (Nat.le_refl _) rfl ?_
      refine mm_s_mono _ _ _ _ _ _ ?_ k
      rintro r_ h_ ⟨x2, I2, J2, rfl, rfl, k⟩
      refine hs_S (st2 := [.int x2, .ref 65]) rfl ?_
      refine sc_S 205 rfl rfl rfl rfl (Nat.le_refl _) (Nat.le_refl _) rfl ?_
      refine cx_X11_isLetter ?_
      refine hs_S (st2 := [.int (sx_X11_isLetter x2), .ref 65]) rfl ?_
      refine sp_if_eq 208 rfl rfl (fun q_ => ?_) (fun q_ => ?_)
      · have k := k.1 q_
        refine sp_iconst 213 rfl rfl ?_
        refine hq_putI 216 rfl rfl rfl ?_
        refine sp_goto rfl ?_
        refine sp_aload_n 238 rfl rfl rfl ?_
        refine hq_getI 241 rfl rfl rfl ?_
        refine sp_I (y := Int32.ofInt 2) (by simp [mm_u]) ?_
        refine sp_iconst 242 rfl rfl ?_
        refine sp_ic_eq 245 rfl rfl (fun q_ => absurd q_ (by decide)) (fun _ => ?_)
        refine sp_aload_n 246 rfl rfl rfl ?_
        refine sp_dup 247 rfl rfl rfl ?_
        refine hq_getI 250 rfl rfl rfl ?_
        refine sp_I (y := (I2 65 4)) (by simp [mm_u]) ?_
        refine sp_iload_n 251 rfl rfl rfl ?_
        refine sp_iadd 252 rfl rfl ?_
        refine hq_putI 255 rfl rfl rfl ?_
        exact st_vret rfl rfl (Nat.le_refl _) (Nat.le_refl _) k
      · have k := k.2 q_
        refine sp_iconst 209 rfl rfl ?_
        refine sp_goto rfl ?_
        refine hq_putI 216 rfl rfl rfl ?_
        refine sp_goto rfl ?_
        refine sp_aload_n 238 rfl rfl rfl ?_
        refine hq_getI 241 rfl rfl rfl ?_
        refine sp_I (y := Int32.ofInt 3) (by simp [mm_u]) ?_
        refine sp_iconst 242 rfl rfl ?_
        refine sp_ic_eq 245 rfl rfl (fun _ => ?_) (fun q_ => absurd q_ (by decide))
        exact st_vret rfl rfl (Nat.le_refl _) (Nat.le_refl _) k
  · have k := k.2 q_
    refine sp_iload_n 161 rfl rfl rfl ?_
    refine sp_iconst 162 rfl rfl ?_
    refine sp_ic_ge 165 rfl rfl (fun q_ => ?_) (fun q_ => ?_)
    · have k := k.1 q_
      refine hs_iinc 188 (L2 := [some (.ref 65), some (.int v1), some (.int (v2 + Int32.ofInt 1))]) rfl rfl rfl rfl rfl ?_
      refine sp_goto rfl ?_
      exact k
    · have k := k.2 q_
      refine sp_aload_n 166 rfl rfl rfl ?_
      refine sp_bipush 168 rfl rfl ?_
      refine sp_I (y := Int32.ofInt 10) rfl ?_
      refine sp_aload_n 169 rfl rfl rfl ?_
      refine hq_getI 172 rfl rfl rfl ?_
      refine sp_imul 173 rfl rfl ?_
      refine sp_aload_n 174 rfl rfl rfl ?_
      refine sp_iload_n 175 rfl rfl rfl ?_
      refine sc_V 178 rfl rfl rfl rfl rfl (Nat.le_refl _) (Nat.le_refl _) rfl ?_
      refine mm_s_mono _ _ _ _ _ _ ?_ k
      rintro r_ h_ ⟨x3, I3, J3, rfl, rfl, k⟩
      refine hs_S (st2 := [.int x3, .int ((Int32.ofInt 10) * (I1 65 8)), .ref 65]) rfl ?_
      refine sp_iadd 179 rfl rfl ?_
      refine sp_bipush 181 rfl rfl ?_
      refine sp_I (y := Int32.ofInt 48) rfl ?_
      refine sp_isub 182 rfl rfl ?_
      refine hq_putI 185 rfl rfl rfl ?_
      refine hs_iinc 188 (L2 := [some (.ref 65), some (.int v1), some (.int (v2 + Int32.ofInt 1))]) rfl rfl rfl rfl rfl ?_
      refine sp_goto rfl ?_
      exact k
theorem sg_X11_pop {SL : Nat} {xs : Nat → Int32} {d : Nat} {p s q : Nat} {Q : Option Value → mm_H → Prop}  {I : Nat → Nat → Int32} {J : Nat → Nat → Int64}  (k : (vp_in ((I 65 22) - (Int32.ofInt 1)) 300 ∧ (((I 71 ((((I 65 22) - (Int32.ofInt 1))).toNatClampNeg)) = (Int32.ofInt 22) → (mm_s SL xs (d + 1) 179 [.ref 65, .int (I 71 ((((I 65 22) - (Int32.ofInt 1))).toNatClampNeg)), .int (Int32.ofInt 0)] (hp p s q (mm_u (mm_u I 65 22 ((I 65 22) - (Int32.ofInt 1))) 65 23 ((I 65 23) - (Int32.ofInt 1))) J) (fun r_ h_ => ∃ I2 J2, r_ = none ∧ h_ = hp p s q I2 J2 ∧ Q none (hp p s q I2 J2)))) ∧ (¬ ((I 71 ((((I 65 22) - (Int32.ofInt 1))).toNatClampNeg)) = (Int32.ofInt 22)) → (mm_s SL xs (d + 1) 179 [.ref 65, .int (I 71 ((((I 65 22) - (Int32.ofInt 1))).toNatClampNeg)), .int (Int32.ofInt 0)] (hp p s q (mm_u I 65 22 ((I 65 22) - (Int32.ofInt 1))) J) (fun r_ h_ => ∃ I1 J1, r_ = none ∧ h_ = hp p s q I1 J1 ∧ Q none (hp p s q I1 J1))))))) : mm_s SL xs (d + 2) 182 [.ref 65] (hp p s q I J) Q := by
  refine e_X11_pop rfl ?_
  refine hs_L (L2 := [some (.ref 65)]) rfl ?_
  refine sp_aload_n 1 rfl rfl rfl ?_
  refine sp_dup 2 rfl rfl rfl ?_
  refine hq_getI 5 rfl rfl rfl ?_
  refine sp_iconst 6 rfl rfl ?_
  refine sp_isub 7 rfl rfl ?_
  refine hq_putI 10 rfl rfl rfl ?_
  refine sp_aload_n 11 rfl rfl rfl ?_
  refine hq_getR 14 rfl rfl rfl rfl ?_
  refine sp_aload_n 15 rfl rfl rfl ?_
  refine hq_getI 18 rfl rfl rfl ?_
  refine sp_I (y := ((I 65 22) - (Int32.ofInt 1))) (by simp [mm_u]) ?_
  have n1_ := k.1
  have k := k.2
  refine hq_iald 19 rfl rfl n1_ rfl ?_
  refine sp_I (y := (I 71 ((((I 65 22) - (Int32.ofInt 1))).toNatClampNeg))) (by simp [mm_u]) ?_
  refine sp_bipush 21 rfl rfl ?_
  refine sp_I (y := Int32.ofInt 22) rfl ?_
  refine sp_ic_ne 24 rfl rfl (fun q_ => ?_) (fun q_ => ?_)
  · have k := k.2 q_
    refine sp_aload_n 35 rfl rfl rfl ?_
    refine sp_aload_n 36 rfl rfl rfl ?_
    refine hq_getR 39 rfl rfl rfl rfl ?_
    refine sp_aload_n 40 rfl rfl rfl ?_
    refine hq_getI 43 rfl rfl rfl ?_
    refine sp_I (y := ((I 65 22) - (Int32.ofInt 1))) (by simp [mm_u]) ?_
    refine hq_iald 44 rfl rfl n1_ rfl ?_
    refine sp_I (y := (I 71 ((((I 65 22) - (Int32.ofInt 1))).toNatClampNeg))) (by simp [mm_u]) ?_
    refine sp_iconst 45 rfl rfl ?_
    refine sc_V 48 rfl rfl rfl rfl rfl (Nat.le_refl _) (Nat.le_refl _) rfl ?_
    refine mm_s_mono _ _ _ _ _ _ ?_ k
    rintro r_ h_ ⟨I1, J1, rfl, rfl, k⟩
    refine hs_S (st2 := []) rfl ?_
    exact st_vret rfl rfl (Nat.le_refl _) (Nat.le_refl _) k
  · have k := k.1 q_
    refine sp_aload_n 25 rfl rfl rfl ?_
    refine sp_dup 26 rfl rfl rfl ?_
    refine hq_getI 29 rfl rfl rfl ?_
    refine sp_I (y := (I 65 23)) (by simp [mm_u]) ?_
    refine sp_iconst 30 rfl rfl ?_
    refine sp_isub 31 rfl rfl ?_
    refine hq_putI 34 rfl rfl rfl ?_
    refine sp_aload_n 35 rfl rfl rfl ?_
    refine sp_aload_n 36 rfl rfl rfl ?_
    refine hq_getR 39 rfl rfl rfl rfl ?_
    refine sp_aload_n 40 rfl rfl rfl ?_
    refine hq_getI 43 rfl rfl rfl ?_
    refine sp_I (y := ((I 65 22) - (Int32.ofInt 1))) (by simp [mm_u]) ?_
    refine hq_iald 44 rfl rfl n1_ rfl ?_
    refine sp_I (y := (I 71 ((((I 65 22) - (Int32.ofInt 1))).toNatClampNeg))) (by simp [mm_u]) ?_
    refine sp_iconst 45 rfl rfl ?_
    refine sc_V 48 rfl rfl rfl rfl rfl (Nat.le_refl _) (Nat.le_refl _) rfl ?_
    refine mm_s_mono _ _ _ _ _ _ ?_ k
    rintro r_ h_ ⟨I2, J2, rfl, rfl, k⟩
    refine hs_S (st2 := []) rfl ?_
    exact st_vret rfl rfl (Nat.le_refl _) (Nat.le_refl _) k
def w_X11_counted_75 (SL : Nat) (xs : Nat → Int32) (d : Nat) (p s q : Nat) (Q : Option Value → mm_H → Prop) (v1 : Int32) (v2 : Int32) (I : Nat → Nat → Int32) (J : Nat → Nat → Int64) : Prop := mm_w SL xs (mm_s SL xs (d + 1)) mm_am kX11_counted 0 0 (some .int) Q 75 [some (.ref 65), some (.int v1), some (.int v2)] [] (hp p s q I J) 0 0
theorem sg_X11_counted {SL : Nat} {xs : Nat → Int32} {d : Nat} {p s q : Nat} {Q : Option Value → mm_H → Prop}  {I : Nat → Nat → Int32} {J : Nat → Nat → Int64}  (k : (((I 65 76) ≤ Int32.ofInt 0 → (((I 65 53) = Int32.ofInt 0 → Q (some (.int (Int32.ofInt 3))) (hp p s q I J)) ∧ (¬ ((I 65 53) = Int32.ofInt 0) → (vp_in (Int32.ofInt 1) 6 ∧ (vp_in (Int32.ofInt 2) 6 ∧ (vp_in (Int32.ofInt 3) 6 ∧ (vp_in (Int32.ofInt 4) 6 ∧ (vp_in (Int32.ofInt 5) 6 ∧ w_X11_counted_75 SL xs d p s q Q (Int32.ofInt 0) (Int32.ofInt 0) (mm_u (mm_u (mm_u (mm_u (mm_u I 73 (((Int32.ofInt 1)).toNatClampNeg) (I 65 60)) 73 (((Int32.ofInt 2)).toNatClampNeg) (I 65 59)) 73 (((Int32.ofInt 3)).toNatClampNeg) (I 65 62)) 73 (((Int32.ofInt 4)).toNatClampNeg) (I 65 45)) 73 (((Int32.ofInt 5)).toNatClampNeg) (I 65 46)) J)))))))) ∧ (¬ ((I 65 76) ≤ Int32.ofInt 0) → Q (some (.int (I 65 76))) (hp p s q I J)))) : mm_s SL xs (d + 2) 206 [.ref 65] (hp p s q I J) Q := by
  refine e_X11_counted rfl ?_
  refine hs_L (L2 := [some (.ref 65), none, none]) rfl ?_
  refine sp_aload_n 1 rfl rfl rfl ?_
  refine hq_getI 4 rfl rfl rfl ?_
  refine sp_if_le 7 rfl rfl (fun q_ => ?_) (fun q_ => ?_)
  · have k := k.1 q_
    refine sp_aload_n 13 rfl rfl rfl ?_
    refine hq_getI 16 rfl rfl rfl ?_
    refine sp_if_ne 19 rfl rfl (fun q_ => ?_) (fun q_ => ?_)
    · have k := k.2 q_
      refine sp_aload_n 22 rfl rfl rfl ?_
      refine hq_getR 25 rfl rfl rfl rfl ?_
      refine sp_iconst 26 rfl rfl ?_
      refine sp_aload_n 27 rfl rfl rfl ?_
      refine hq_getI 30 rfl rfl rfl ?_
      have n1_ := k.1
      have k := k.2
      refine hq_iast 31 rfl rfl n1_ rfl ?_
      refine sp_aload_n 32 rfl rfl rfl ?_
      refine hq_getR 35 rfl rfl rfl rfl ?_
      refine sp_iconst 36 rfl rfl ?_
      refine sp_aload_n 37 rfl rfl rfl ?_
      refine hq_getI 40 rfl rfl rfl ?_
      refine sp_I (y := (I 65 59)) (by simp [mm_u]) ?_
      have n2_ := k.1
      have k := k.2
      refine hq_iast 41 rfl rfl n2_ rfl ?_
      refine sp_aload_n 42 rfl rfl rfl ?_
      refine hq_getR 45 rfl rfl rfl rfl ?_
      refine sp_iconst 46 rfl rfl ?_
      refine sp_aload_n 47 rfl rfl rfl ?_
      refine hq_getI 50 rfl rfl rfl ?_
      refine sp_I (y := (I 65 62)) (by simp [mm_u]) ?_
      have n3_ := k.1
      have k := k.2
      refine hq_iast 51 rfl rfl n3_ rfl ?_
      refine sp_aload_n 52 rfl rfl rfl ?_
      refine hq_getR 55 rfl rfl rfl rfl ?_
      refine sp_iconst 56 rfl rfl ?_
      refine sp_aload_n 57 rfl rfl rfl ?_
      refine hq_getI 60 rfl rfl rfl ?_
      refine sp_I (y := (I 65 45)) (by simp [mm_u]) ?_
      have n4_ := k.1
      have k := k.2
      refine hq_iast 61 rfl rfl n4_ rfl ?_
      refine sp_aload_n 62 rfl rfl rfl ?_
      refine hq_getR 65 rfl rfl rfl rfl ?_
      refine sp_iconst 66 rfl rfl ?_
      refine sp_aload_n 67 rfl rfl rfl ?_
      refine hq_getI 70 rfl rfl rfl ?_
      refine sp_I (y := (I 65 46)) (by simp [mm_u]) ?_
      have n5_ := k.1
      have k := k.2
      refine hq_iast 71 rfl rfl n5_ rfl ?_
      refine sp_iconst 72 rfl rfl ?_
      refine hs_istore_n 73 (L2 := [some (.ref 65), some (.int (Int32.ofInt 0)), none]) rfl rfl rfl rfl ?_
      refine sp_iconst 74 rfl rfl ?_
      refine hs_istore_n 75 (L2 := [some (.ref 65), some (.int (Int32.ofInt 0)), some (.int (Int32.ofInt 0))]) rfl rfl rfl rfl ?_
      exact k
    · have k := k.1 q_
      refine sp_iconst 20 rfl rfl ?_
      exact st_iret rfl rfl (Nat.le_refl _) (Nat.le_refl _) k
  · have k := k.2 q_
    refine sp_aload_n 8 rfl rfl rfl ?_
    refine hq_getI 11 rfl rfl rfl ?_
    exact st_iret rfl rfl (Nat.le_refl _) (Nat.le_refl _) k
theorem sg_X11_counted_75 {SL : Nat} {xs : Nat → Int32} {d : Nat} {p s q : Nat} {Q : Option Value → mm_H → Prop} {v1 : Int32} {v2 : Int32} {I : Nat → Nat → Int32} {J : Nat → Nat → Int64}  (k : (((I 65 20) ≤ v2 → (vp_in (Int32.ofInt 0) 50 ∧ (((Int32.ofInt 1) ≤ (I 72 (((Int32.ofInt 0)).toNatClampNeg)) → (((I 72 (((Int32.ofInt 0)).toNatClampNeg)) ≤ (Int32.ofInt 999) → Q (some (.int (I 72 (((Int32.ofInt 0)).toNatClampNeg)))) (hp p s q I J)) ∧ (¬ ((I 72 (((Int32.ofInt 0)).toNatClampNeg)) ≤ (Int32.ofInt 999)) → Q (some (.int (Int32.ofInt 999))) (hp p s q I J)))) ∧ (¬ ((Int32.ofInt 1) ≤ (I 72 (((Int32.ofInt 0)).toNatClampNeg))) → Q (some (.int (Int32.ofInt 1))) (hp p s q I J))))) ∧ (¬ ((I 65 20) ≤ v2) → (vp_in v2 500 ∧ (((Int32.ofInt 20) ≤ (I 69 ((v2).toNatClampNeg)) → (((I 69 ((v2).toNatClampNeg)) = (Int32.ofInt 22) → (vp_in (v1 - (Int32.ofInt 1)) 50 ∧ (((I 72 (((v1 - (Int32.ofInt 1))).toNatClampNeg)) = Int32.ofInt 0 → w_X11_counted_75 SL xs d p s q Q v1 (v2 + Int32.ofInt 1) (mm_u I 72 (((v1 - (Int32.ofInt 1))).toNatClampNeg) (Int32.ofInt 1)) J) ∧ (¬ ((I 72 (((v1 - (Int32.ofInt 1))).toNatClampNeg)) = Int32.ofInt 0) → w_X11_counted_75 SL xs d p s q Q v1 (v2 + Int32.ofInt 1) (mm_u I 72 (((v1 - (Int32.ofInt 1))).toNatClampNeg) (Int32.ofInt 0)) J)))) ∧ (¬ ((I 69 ((v2).toNatClampNeg)) = (Int32.ofInt 22)) → (vp_in ((v1 + Int32.ofInt (-1)) - (Int32.ofInt 1)) 50 ∧ (vp_in (v1 + Int32.ofInt (-1)) 50 ∧ (mm_s SL xs (d + 1) 205 [.int (I 69 ((v2).toNatClampNeg)), .int (I 72 ((((v1 + Int32.ofInt (-1)) - (Int32.ofInt 1))).toNatClampNeg)), .int (I 72 (((v1 + Int32.ofInt (-1))).toNatClampNeg))] (hp p s q I J) (fun r_ h_ => ∃ x1 I1 J1, r_ = some (.int x1) ∧ h_ = hp p s q I1 J1 ∧ w_X11_counted_75 SL xs d p s q Q (v1 + Int32.ofInt (-1)) (v2 + Int32.ofInt 1) (mm_u I1 72 ((((v1 + Int32.ofInt (-1)) - (Int32.ofInt 1))).toNatClampNeg) x1) J1))))))) ∧ (¬ ((Int32.ofInt 20) ≤ (I 69 ((v2).toNatClampNeg))) → (((I 69 ((v2).toNatClampNeg)) = Int32.ofInt 0 → (vp_in v1 50 ∧ w_X11_counted_75 SL xs d p s q Q (v1 + Int32.ofInt 1) (v2 + Int32.ofInt 1) (mm_u I 72 ((v1).toNatClampNeg) (I 70 ((v2).toNatClampNeg))) J)) ∧ (¬ ((I 69 ((v2).toNatClampNeg)) = Int32.ofInt 0) → (vp_in (I 69 ((v2).toNatClampNeg)) 6 ∧ (vp_in v1 50 ∧ w_X11_counted_75 SL xs d p s q Q (v1 + Int32.ofInt 1) (v2 + Int32.ofInt 1) (mm_u I 72 ((v1).toNatClampNeg) (I 73 (((I 69 ((v2).toNatClampNeg))).toNatClampNeg))) J)))))))))) : w_X11_counted_75 SL xs d p s q Q v1 v2 I J := by
  unfold w_X11_counted_75
  refine sp_iload_n 76 rfl rfl rfl ?_
  refine sp_aload_n 77 rfl rfl rfl ?_
  refine hq_getI 80 rfl rfl rfl ?_
  refine sp_ic_ge 83 rfl rfl (fun q_ => ?_) (fun q_ => ?_)
  · have k := k.1 q_
    refine sp_aload_n 214 rfl rfl rfl ?_
    refine hq_getR 217 rfl rfl rfl rfl ?_
    refine sp_iconst 218 rfl rfl ?_
    have n6_ := k.1
    have k := k.2
    refine hq_iald 219 rfl rfl n6_ rfl ?_
    refine sp_iconst 220 rfl rfl ?_
    refine sp_ic_ge 223 rfl rfl (fun q_ => ?_) (fun q_ => ?_)
    · have k := k.1 q_
      refine sp_aload_n 228 rfl rfl rfl ?_
      refine hq_getR 231 rfl rfl rfl rfl ?_
      refine sp_iconst 232 rfl rfl ?_
      refine hq_iald 233 rfl rfl n6_ rfl ?_
      refine sp_sipush 236 rfl rfl ?_
      refine sp_I (y := Int32.ofInt 999) rfl ?_
      refine sp_ic_le 239 rfl rfl (fun q_ => ?_) (fun q_ => ?_)
      · have k := k.1 q_
        refine sp_aload_n 246 rfl rfl rfl ?_
        refine hq_getR 249 rfl rfl rfl rfl ?_
        refine sp_iconst 250 rfl rfl ?_
        refine hq_iald 251 rfl rfl n6_ rfl ?_
        exact st_iret rfl rfl (Nat.le_refl _) (Nat.le_refl _) k
      · have k := k.2 q_
        refine sp_sipush 242 rfl rfl ?_
        refine sp_I (y := Int32.ofInt 999) rfl ?_
        refine sp_goto rfl ?_
        exact st_iret rfl rfl (Nat.le_refl _) (Nat.le_refl _) k
    · have k := k.2 q_
      refine sp_iconst 224 rfl rfl ?_
      refine sp_goto rfl ?_
      exact st_iret rfl rfl (Nat.le_refl _) (Nat.le_refl _) k
  · have k := k.2 q_
    refine sp_aload_n 84 rfl rfl rfl ?_
    refine hq_getR 87 rfl rfl rfl rfl ?_
    refine sp_iload_n 88 rfl rfl rfl ?_
    have n7_ := k.1
    have k := k.2
    refine hq_iald 89 rfl rfl n7_ rfl ?_
    refine sp_bipush 91 rfl rfl ?_
    refine sp_I (y := Int32.ofInt 20) rfl ?_
    refine sp_ic_ge 94 rfl rfl (fun q_ => ?_) (fun q_ => ?_)
    · have k := k.1 q_
      refine sp_aload_n 136 rfl rfl rfl ?_
      refine hq_getR 139 rfl rfl rfl rfl ?_
      refine sp_iload_n 140 rfl rfl rfl ?_
      refine hq_iald 141 rfl rfl n7_ rfl ?_
      refine sp_bipush 143 rfl rfl ?_
      refine sp_I (y := Int32.ofInt 22) rfl ?_
      refine sp_ic_ne 146 rfl rfl (fun q_ => ?_) (fun q_ => ?_)
      · have k := k.2 q_
        refine hs_iinc 176 (L2 := [some (.ref 65), some (.int (v1 + Int32.ofInt (-1))), some (.int v2)]) rfl rfl rfl rfl rfl ?_
        refine sp_aload_n 177 rfl rfl rfl ?_
        refine hq_getR 180 rfl rfl rfl rfl ?_
        refine sp_iload_n 181 rfl rfl rfl ?_
        refine sp_iconst 182 rfl rfl ?_
        refine sp_isub 183 rfl rfl ?_
        refine sp_aload_n 184 rfl rfl rfl ?_
        refine hq_getR 187 rfl rfl rfl rfl ?_
        refine sp_iload_n 188 rfl rfl rfl ?_
        refine hq_iald 189 rfl rfl n7_ rfl ?_
        refine sp_aload_n 190 rfl rfl rfl ?_
        refine hq_getR 193 rfl rfl rfl rfl ?_
        refine sp_iload_n 194 rfl rfl rfl ?_
        refine sp_iconst 195 rfl rfl ?_
        refine sp_isub 196 rfl rfl ?_
        have n8_ := k.1
        have k := k.2
        refine hq_iald 197 rfl rfl n8_ rfl ?_
        refine sp_aload_n 198 rfl rfl rfl ?_
        refine hq_getR 201 rfl rfl rfl rfl ?_
        refine sp_iload_n 202 rfl rfl rfl ?_
        have n9_ := k.1
        have k := k.2
        refine hq_iald 203 rfl rfl n9_ rfl ?_
        refine sc_S 206 rfl rfl rfl rfl (Nat.le_refl _) (Nat.le_refl _) rfl ?_
        refine mm_s_mono _ _ _ _ _ _ ?_ k
        rintro r_ h_ ⟨x1, I1, J1, rfl, rfl, k⟩
        refine hs_S (st2 := [.int x1, .int ((v1 + Int32.ofInt (-1)) - (Int32.ofInt 1)), .ref 72]) rfl ?_
        refine hq_iast 207 rfl rfl n8_ rfl ?_
        refine hs_iinc 210 (L2 := [some (.ref 65), some (.int (v1 + Int32.ofInt (-1))), some (.int (v2 + Int32.ofInt 1))]) rfl rfl rfl rfl rfl ?_
        refine sp_goto rfl ?_
        exact k
      · have k := k.1 q_
        refine sp_aload_n 147 rfl rfl rfl ?_
        refine hq_getR 150 rfl rfl rfl rfl ?_
        refine sp_iload_n 151 rfl rfl rfl ?_
        refine sp_iconst 152 rfl rfl ?_
        refine sp_isub 153 rfl rfl ?_
        refine sp_aload_n 154 rfl rfl rfl ?_
        refine hq_getR 157 rfl rfl rfl rfl ?_
        refine sp_iload_n 158 rfl rfl rfl ?_
        refine sp_iconst 159 rfl rfl ?_
        refine sp_isub 160 rfl rfl ?_
        have n10_ := k.1
        have k := k.2
        refine hq_iald 161 rfl rfl n10_ rfl ?_
        refine sp_if_ne 164 rfl rfl (fun q_ => ?_) (fun q_ => ?_)
        · have k := k.2 q_
          refine sp_iconst 169 rfl rfl ?_
          refine hq_iast 170 rfl rfl n10_ rfl ?_
          refine sp_goto rfl ?_
          refine hs_iinc 210 (L2 := [some (.ref 65), some (.int v1), some (.int (v2 + Int32.ofInt 1))]) rfl rfl rfl rfl rfl ?_
          refine sp_goto rfl ?_
          exact k
        · have k := k.1 q_
          refine sp_iconst 165 rfl rfl ?_
          refine sp_goto rfl ?_
          refine hq_iast 170 rfl rfl n10_ rfl ?_
          refine sp_goto rfl ?_
          refine hs_iinc 210 (L2 := [some (.ref 65), some (.int v1), some (.int (v2 + Int32.ofInt 1))]) rfl rfl rfl rfl rfl ?_
          refine sp_goto rfl ?_
          exact k
    · have k := k.2 q_
      refine sp_aload_n 95 rfl rfl rfl ?_
      refine hq_getR 98 rfl rfl rfl rfl ?_
      refine sp_iload_n 99 rfl rfl rfl ?_
      refine sp_aload_n 100 rfl rfl rfl ?_
      refine hq_getR 103 rfl rfl rfl rfl ?_
      refine sp_iload_n 104 rfl rfl rfl ?_
      refine hq_iald 105 rfl rfl n7_ rfl ?_
      refine sp_if_ne 108 rfl rfl (fun q_ => ?_) (fun q_ => ?_)
      · have k := k.2 q_
        refine sp_aload_n 118 rfl rfl rfl ?_
        refine hq_getR 121 rfl rfl rfl rfl ?_
        refine sp_aload_n 122 rfl rfl rfl ?_
        refine hq_getR 125 rfl rfl rfl rfl ?_
        refine sp_iload_n 126 rfl rfl rfl ?_
        refine hq_iald 127 rfl rfl n7_ rfl ?_
        have n11_ := k.1
        have k := k.2
        refine hq_iald 128 rfl rfl n11_ rfl ?_
        have n12_ := k.1
        have k := k.2
        refine hq_iast 129 rfl rfl n12_ rfl ?_
        refine hs_iinc 132 (L2 := [some (.ref 65), some (.int (v1 + Int32.ofInt 1)), some (.int v2)]) rfl rfl rfl rfl rfl ?_
        refine sp_goto rfl ?_
        refine hs_iinc 210 (L2 := [some (.ref 65), some (.int (v1 + Int32.ofInt 1)), some (.int (v2 + Int32.ofInt 1))]) rfl rfl rfl rfl rfl ?_
        refine sp_goto rfl ?_
        exact k
      · have k := k.1 q_
        refine sp_aload_n 109 rfl rfl rfl ?_
        refine hq_getR 112 rfl rfl rfl rfl ?_
        refine sp_iload_n 113 rfl rfl rfl ?_
        refine hq_iald 114 rfl rfl n7_ rfl ?_
        refine sp_goto rfl ?_
        have n13_ := k.1
        have k := k.2
        refine hq_iast 129 rfl rfl n13_ rfl ?_
        refine hs_iinc 132 (L2 := [some (.ref 65), some (.int (v1 + Int32.ofInt 1)), some (.int v2)]) rfl rfl rfl rfl rfl ?_
        refine sp_goto rfl ?_
        refine hs_iinc 210 (L2 := [some (.ref 65), some (.int (v1 + Int32.ofInt 1)), some (.int (v2 + Int32.ofInt 1))]) rfl rfl rfl rfl rfl ?_
        refine sp_goto rfl ?_
        exact k
theorem sg_X11_post {SL : Nat} {xs : Nat → Int32} {d : Nat} {p s q : Nat} {Q : Option Value → mm_H → Prop} {a0 : Int32} {a1 : Int32} {I : Nat → Nat → Int32} {J : Nat → Nat → Int64}  (k : (((sy_X11_isPost a0 I J) = Int32.ofInt 0 → Q (some (.int (Int32.ofInt (-1)))) (hp p s q I J)) ∧ (¬ ((sy_X11_isPost a0 I J) = Int32.ofInt 0) → ((a1 = Int32.ofInt 0 → (vp_in a0 60 ∧ (((I 91 ((a0).toNatClampNeg)) = Int32.ofInt 0 → Q (some (.int (Int32.ofInt 0))) (hp p s q I J)) ∧ (¬ ((I 91 ((a0).toNatClampNeg)) = Int32.ofInt 0) → Q (some (.int (Int32.ofInt 1))) (hp p s q I J))))) ∧ (a1 = Int32.ofInt 1 → (vp_in a0 60 ∧ Q (some (.int (I 87 ((a0).toNatClampNeg)))) (hp p s q I J))) ∧ (a1 = Int32.ofInt 2 → (vp_in a0 60 ∧ Q (some (.int (I 88 ((a0).toNatClampNeg)))) (hp p s q I J))) ∧ (¬ a1 = Int32.ofInt 0 → ¬ a1 = Int32.ofInt 1 → ¬ a1 = Int32.ofInt 2 → Q (some (.int (Int32.ofInt (-1)))) (hp p s q I J)))))) : mm_s SL xs (d + 2) 214 [.ref 65, .int a0, .int a1] (hp p s q I J) Q := by
  refine e_X11_post rfl ?_
  refine hs_L (L2 := [some (.ref 65), some (.int a0), some (.int a1)]) rfl ?_
  refine sp_aload_n 1 rfl rfl rfl ?_
  refine sp_iload_n 2 rfl rfl rfl ?_
  refine sc_V 5 rfl rfl rfl rfl rfl (Nat.le_refl _) (Nat.le_refl _) rfl ?_
  refine cy_X11_isPost ?_
  refine sp_if_ne 8 rfl rfl (fun q_ => ?_) (fun q_ => ?_)
  · have k := k.2 q_
    refine sp_iload_n 11 rfl rfl rfl ?_
    by_cases q11_0 : a1 = Int32.ofInt 0
    · have k := k.1 q11_0
      refine sp_table (t := 36) rfl (by rw [q11_0]; rfl) ?_
      refine sp_aload_n 37 rfl rfl rfl ?_
      refine hq_getR 40 rfl rfl rfl rfl ?_
      refine sp_iload_n 41 rfl rfl rfl ?_
      have n1_ := k.1
      have k := k.2
      refine hq_zald 42 rfl rfl n1_ rfl ?_
      refine sp_if_eq 45 rfl rfl (fun q_ => ?_) (fun q_ => ?_)
      · have k := k.1 q_
        refine sp_iconst 50 rfl rfl ?_
        exact st_iret rfl rfl (Nat.le_refl _) (Nat.le_refl _) k
      · have k := k.2 q_
        refine sp_iconst 46 rfl rfl ?_
        refine sp_goto rfl ?_
        exact st_iret rfl rfl (Nat.le_refl _) (Nat.le_refl _) k
    · skip
      by_cases q11_1 : a1 = Int32.ofInt 1
      · have k := k.2.1 q11_1
        refine sp_table (t := 51) rfl (by rw [q11_1]; rfl) ?_
        refine sp_aload_n 52 rfl rfl rfl ?_
        refine hq_getR 55 rfl rfl rfl rfl ?_
        refine sp_iload_n 56 rfl rfl rfl ?_
        have n2_ := k.1
        have k := k.2
        refine hq_iald 57 rfl rfl n2_ rfl ?_
        exact st_iret rfl rfl (Nat.le_refl _) (Nat.le_refl _) k
      · skip
        by_cases q11_2 : a1 = Int32.ofInt 2
        · have k := k.2.2.1 q11_2
          refine sp_table (t := 58) rfl (by rw [q11_2]; rfl) ?_
          refine sp_aload_n 59 rfl rfl rfl ?_
          refine hq_getR 62 rfl rfl rfl rfl ?_
          refine sp_iload_n 63 rfl rfl rfl ?_
          have n3_ := k.1
          have k := k.2
          refine hq_iald 64 rfl rfl n3_ rfl ?_
          exact st_iret rfl rfl (Nat.le_refl _) (Nat.le_refl _) k
        · skip
          have k := k.2.2.2 q11_0 q11_1 q11_2
          refine sp_table (t := 65) rfl (by unfold mm_tab; rw [if_pos (by have := tb_ne q11_0; have := tb_ne q11_1; have := tb_ne q11_2; omega)]; rfl) ?_
          refine sp_iconst 66 rfl rfl ?_
          exact st_iret rfl rfl (Nat.le_refl _) (Nat.le_refl _) k
  · have k := k.1 q_
    refine sp_iconst 9 rfl rfl ?_
    exact st_iret rfl rfl (Nat.le_refl _) (Nat.le_refl _) k
theorem sg_X11_far {SL : Nat} {xs : Nat → Int32} {d : Nat} {p s q : Nat} {Q : Option Value → mm_H → Prop} {a0 : Int64} {a1 : Int32} {a2 : Int64} {I : Nat → Nat → Int32} {J : Nat → Nat → Int64}  (k : (((sx_X11_isPlain a0 a1) = Int32.ofInt 0 → Q (some (.long (Int64.ofInt (-1)))) (hp p s q I J)) ∧ (¬ ((sx_X11_isPlain a0 a1) = Int32.ofInt 0) → ((a2 < (Int64.ofInt 1) → Q (some (.long (Int64.ofInt (-1)))) (hp p s q I J)) ∧ (¬ (a2 < (Int64.ofInt 1)) → ((a0 < a2 → Q (some (.long (Int64.ofInt (-1)))) (hp p s q I J)) ∧ (¬ (a0 < a2) → (mm_s SL xs (d + 1) 233 [.long a0, .int a1, .long a2] (hp p s q I J) (fun r_ h_ => ∃ x1 I1 J1, r_ = some (.long x1) ∧ h_ = hp p s q I1 J1 ∧ Q (some (.long x1)) (hp p s q I1 J1)))))))))) : mm_s SL xs (d + 2) 235 [.ref 65, .long a0, .int a1, .long a2] (hp p s q I J) Q := by
  refine e_X11_far rfl ?_
  refine hs_L (L2 := [some (.ref 65), some (.long a0), none, some (.int a1), some (.long a2), none]) rfl ?_
  refine sp_lload_n 1 rfl rfl rfl ?_
  refine sp_iload_n 2 rfl rfl rfl ?_
  refine sc_S 5 rfl rfl rfl rfl (Nat.le_refl _) (Nat.le_refl _) rfl ?_
  refine cx_X11_isPlain ?_
  refine hs_S (st2 := [.int (sx_X11_isPlain a0 a1)]) rfl ?_
  refine sp_if_eq 8 rfl rfl (fun q_ => ?_) (fun q_ => ?_)
  · have k := k.1 q_
    refine sp_ldc2 35 rfl rfl ?_
    exact st_lret rfl rfl (Nat.le_refl _) (Nat.le_refl _) k
  · have k := k.2 q_
    refine sp_lload 10 rfl rfl rfl ?_
    refine sp_lconst 11 rfl rfl ?_
    refine sp_J (y := Int64.ofInt 1) rfl ?_
    refine sp_lcmp 12 rfl rfl ?_
    refine sp_if_lt 15 rfl rfl (fun q_ => ?_) (fun q_ => ?_)
    · have k := k.1 ((lg_cmp_lt _ _).mp q_)
      refine sp_ldc2 35 rfl rfl ?_
      exact st_lret rfl rfl (Nat.le_refl _) (Nat.le_refl _) k
    · have k := k.2 (fun z_ => q_ ((lg_cmp_lt _ _).mpr z_))
      refine sp_lload 17 rfl rfl rfl ?_
      refine sp_lload_n 18 rfl rfl rfl ?_
      refine sp_lcmp 19 rfl rfl ?_
      refine sp_if_gt 22 rfl rfl (fun q_ => ?_) (fun q_ => ?_)
      · have k := k.1 ((lg_cmp_gt _ _).mp q_)
        refine sp_ldc2 35 rfl rfl ?_
        exact st_lret rfl rfl (Nat.le_refl _) (Nat.le_refl _) k
      · have k := k.2 (fun z_ => q_ ((lg_cmp_gt _ _).mpr z_))
        refine sp_lload_n 23 rfl rfl rfl ?_
        refine sp_iload_n 24 rfl rfl rfl ?_
        refine sp_lload 26 rfl rfl rfl ?_
        refine sc_S 29 rfl rfl rfl rfl (Nat.le_refl _) (Nat.le_refl _) rfl ?_
        refine mm_s_mono _ _ _ _ _ _ ?_ k
        rintro r_ h_ ⟨x1, I1, J1, rfl, rfl, k⟩
        refine hs_S (st2 := [.long x1]) rfl ?_
        refine sp_goto rfl ?_
        exact st_lret rfl rfl (Nat.le_refl _) (Nat.le_refl _) k
def w_X11_at_32 (SL : Nat) (xs : Nat → Int32) (d : Nat) (p s q : Nat) (Q : Option Value → mm_H → Prop) (v1 : Int64) (v3 : Int32) (v4 : Int64) (v6 : Int64) (I : Nat → Nat → Int32) (J : Nat → Nat → Int64) : Prop := mm_w SL xs (mm_s SL xs (d + 1)) mm_am kX11_at 0 0 (some .long) Q 32 [some (.ref 65), some (.long v1), none, some (.int v3), some (.long v4), none, some (.long v6), none] [] (hp p s q I J) 0 0
theorem sg_X11_at {SL : Nat} {xs : Nat → Int32} {d : Nat} {p s q : Nat} {Q : Option Value → mm_H → Prop} {a0 : Int64} {a1 : Int32} {a2 : Int64} {I : Nat → Nat → Int32} {J : Nat → Nat → Int64}  (k : (((sx_X11_isPlain a0 a1) = Int32.ofInt 0 → Q (some (.long (Int64.ofInt (-1)))) (hp p s q I J)) ∧ (¬ ((sx_X11_isPlain a0 a1) = Int32.ofInt 0) → ((a2 < (Int64.ofInt 0) → Q (some (.long (Int64.ofInt (-1)))) (hp p s q I J)) ∧ (¬ (a2 < (Int64.ofInt 0)) → ((a2 < a0 → w_X11_at_32 SL xs d p s q Q a0 a1 a2 (a2 + (Int64.ofInt 1)) I J) ∧ (¬ (a2 < a0) → Q (some (.long (Int64.ofInt (-1)))) (hp p s q I J)))))))) : mm_s SL xs (d + 2) 236 [.ref 65, .long a0, .int a1, .long a2] (hp p s q I J) Q := by
  refine e_X11_at rfl ?_
  refine hs_L (L2 := [some (.ref 65), some (.long a0), none, some (.int a1), some (.long a2), none, none, none]) rfl ?_
  refine sp_lload_n 1 rfl rfl rfl ?_
  refine sp_iload_n 2 rfl rfl rfl ?_
  refine sc_S 5 rfl rfl rfl rfl (Nat.le_refl _) (Nat.le_refl _) rfl ?_
  refine cx_X11_isPlain ?_
  refine hs_S (st2 := [.int (sx_X11_isPlain a0 a1)]) rfl ?_
  refine sp_if_eq 8 rfl rfl (fun q_ => ?_) (fun q_ => ?_)
  · have k := k.1 q_
    refine sp_ldc2 25 rfl rfl ?_
    exact st_lret rfl rfl (Nat.le_refl _) (Nat.le_refl _) k
  · have k := k.2 q_
    refine sp_lload 10 rfl rfl rfl ?_
    refine sp_lconst 11 rfl rfl ?_
    refine sp_J (y := Int64.ofInt 0) rfl ?_
    refine sp_lcmp 12 rfl rfl ?_
    refine sp_if_lt 15 rfl rfl (fun q_ => ?_) (fun q_ => ?_)
    · have k := k.1 ((lg_cmp_lt _ _).mp q_)
      refine sp_ldc2 25 rfl rfl ?_
      exact st_lret rfl rfl (Nat.le_refl _) (Nat.le_refl _) k
    · have k := k.2 (fun z_ => q_ ((lg_cmp_lt _ _).mpr z_))
      refine sp_lload 17 rfl rfl rfl ?_
      refine sp_lload_n 18 rfl rfl rfl ?_
      refine sp_lcmp 19 rfl rfl ?_
      refine sp_if_lt 22 rfl rfl (fun q_ => ?_) (fun q_ => ?_)
      · have k := k.1 ((lg_cmp_lt _ _).mp q_)
        refine sp_lload 28 rfl rfl rfl ?_
        refine sp_lconst 29 rfl rfl ?_
        refine sp_J (y := Int64.ofInt 1) rfl ?_
        refine sp_ladd 30 rfl rfl ?_
        refine hs_lstore 32 (L2 := [some (.ref 65), some (.long a0), none, some (.int a1), some (.long a2), none, some (.long (a2 + (Int64.ofInt 1))), none]) rfl rfl rfl rfl ?_
        exact k
      · have k := k.2 (fun z_ => q_ ((lg_cmp_lt _ _).mpr z_))
        refine sp_ldc2 25 rfl rfl ?_
        exact st_lret rfl rfl (Nat.le_refl _) (Nat.le_refl _) k
theorem sg_X11_at_32 {SL : Nat} {xs : Nat → Int32} {d : Nat} {p s q : Nat} {Q : Option Value → mm_H → Prop} {v1 : Int64} {v3 : Int32} {v4 : Int64} {v6 : Int64} {I : Nat → Nat → Int32} {J : Nat → Nat → Int64}  (k : (¬ ((v3).toInt64) = 0 ∧ (((v6 - v6 / ((v3).toInt64) * ((v3).toInt64)) = (Int64.ofInt 0) → Q (some (.long (v6 / ((v3).toInt64)))) (hp p s q I J)) ∧ (¬ ((v6 - v6 / ((v3).toInt64) * ((v3).toInt64)) = (Int64.ofInt 0)) → w_X11_at_32 SL xs d p s q Q v1 v3 v4 ((v6 + v1) - (v6 / ((v3).toInt64))) I J)))) : w_X11_at_32 SL xs d p s q Q v1 v3 v4 v6 I J := by
  unfold w_X11_at_32
  refine sp_lload 34 rfl rfl rfl ?_
  refine sp_iload_n 35 rfl rfl rfl ?_
  refine sp_i2l 36 rfl rfl ?_
  have n1_ := k.1
  have k := k.2
  refine sp_lrem 37 rfl n1_ rfl ?_
  refine sp_lconst 38 rfl rfl ?_
  refine sp_J (y := Int64.ofInt 0) rfl ?_
  refine sp_lcmp 39 rfl rfl ?_
  refine sp_if_eq 42 rfl rfl (fun q_ => ?_) (fun q_ => ?_)
  · have k := k.1 ((lg_cmp_eq _ _).mp q_)
    refine sp_lload 59 rfl rfl rfl ?_
    refine sp_iload_n 60 rfl rfl rfl ?_
    refine sp_i2l 61 rfl rfl ?_
    refine sp_ldiv 62 rfl n1_ rfl ?_
    exact st_lret rfl rfl (Nat.le_refl _) (Nat.le_refl _) k
  · have k := k.2 (fun z_ => q_ ((lg_cmp_eq _ _).mpr z_))
    refine sp_lload 44 rfl rfl rfl ?_
    refine sp_lload_n 45 rfl rfl rfl ?_
    refine sp_ladd 46 rfl rfl ?_
    refine sp_lload 48 rfl rfl rfl ?_
    refine sp_iload_n 49 rfl rfl rfl ?_
    refine sp_i2l 50 rfl rfl ?_
    refine sp_ldiv 51 rfl n1_ rfl ?_
    refine sp_lsub 52 rfl rfl ?_
    refine hs_lstore 54 (L2 := [some (.ref 65), some (.long v1), none, some (.int v3), some (.long v4), none, some (.long ((v6 + v1) - (v6 / ((v3).toInt64)))), none]) rfl rfl rfl rfl ?_
    refine sp_goto rfl ?_
    exact k
def w_X11_areThose_7 (SL : Nat) (xs : Nat → Int32) (d : Nat) (p s q : Nat) (Q : Option Value → mm_H → Prop) (v0 : Int32) (v1 : Int32) (v2 : Int64) (v4 : Int32) (v5 : Int32) (v6 : Int32) (v7 : Int32) (I : Nat → Nat → Int32) (J : Nat → Nat → Int64) : Prop := mm_w SL xs (mm_s SL xs (d + 1)) mm_am kX11_areThose 0 0 (some .boolean) Q 7 [some (.int v0), some (.int v1), some (.long v2), none, some (.int v4), some (.int v5), some (.int v6), some (.int v7)] [] (hp p s q I J) 0 0
theorem sg_X11_areThose {SL : Nat} {xs : Nat → Int32} {d : Nat} {p s q : Nat} {Q : Option Value → mm_H → Prop} {a0 : Int32} {a1 : Int32} {a2 : Int64} {a3 : Int32} {a4 : Int32} {I : Nat → Nat → Int32} {J : Nat → Nat → Int64}  (k : w_X11_areThose_7 SL xs d p s q Q a0 a1 a2 a3 a4 (Int32.ofInt 1) a3 I J) : mm_s SL xs (d + 2) 240 [.int a0, .int a1, .long a2, .int a3, .int a4] (hp p s q I J) Q := by
  refine e_X11_areThose rfl ?_
  refine hs_L (L2 := [some (.int a0), some (.int a1), some (.long a2), none, some (.int a3), some (.int a4), none, none]) rfl ?_
  refine sp_iconst 1 rfl rfl ?_
  refine hs_istore 3 (L2 := [some (.int a0), some (.int a1), some (.long a2), none, some (.int a3), some (.int a4), some (.int (Int32.ofInt 1)), none]) rfl rfl rfl rfl ?_
  refine sp_iload 5 rfl rfl rfl ?_
  refine hs_istore 7 (L2 := [some (.int a0), some (.int a1), some (.long a2), none, some (.int a3), some (.int a4), some (.int (Int32.ofInt 1)), some (.int a3)]) rfl rfl rfl rfl ?_
  exact k
theorem sg_X11_areThose_7 {SL : Nat} {xs : Nat → Int32} {d : Nat} {p s q : Nat} {Q : Option Value → mm_H → Prop} {v0 : Int32} {v1 : Int32} {v2 : Int64} {v4 : Int32} {v5 : Int32} {v6 : Int32} {v7 : Int32} {I : Nat → Nat → Int32} {J : Nat → Nat → Int64}  (k : ((v5 < v7 → ((v6 = 0 ∨ v6 = 1) ∧ Q (some (.int v6)) (hp p s q I J))) ∧ (¬ (v5 < v7) → ((v6 = Int32.ofInt 0 → ((v6 = 0 ∨ v6 = 1) ∧ Q (some (.int v6)) (hp p s q I J))) ∧ (¬ (v6 = Int32.ofInt 0) → (mm_s SL xs (d + 1) 233 [.long ((v0).toInt64), .int v1, .long ((v7).toInt64)] (hp p s q I J) (fun r_ h_ => ∃ x1 I1 J1, r_ = some (.long x1) ∧ h_ = hp p s q I1 J1 ∧ ((((v2 >>> (((x1).toInt32).toInt64 &&& 63)) &&& (Int64.ofInt 1)) = (Int64.ofInt 1) → w_X11_areThose_7 SL xs d p s q Q v0 v1 v2 v4 v5 (Int32.ofInt 1) (v7 + Int32.ofInt 1) I1 J1) ∧ (¬ (((v2 >>> (((x1).toInt32).toInt64 &&& 63)) &&& (Int64.ofInt 1)) = (Int64.ofInt 1)) → w_X11_areThose_7 SL xs d p s q Q v0 v1 v2 v4 v5 (Int32.ofInt 0) (v7 + Int32.ofInt 1) I1 J1))))))))) : w_X11_areThose_7 SL xs d p s q Q v0 v1 v2 v4 v5 v6 v7 I J := by
  unfold w_X11_areThose_7
  refine sp_iload 9 rfl rfl rfl ?_
  refine sp_iload 11 rfl rfl rfl ?_
  refine sp_ic_gt 14 rfl rfl (fun q_ => ?_) (fun q_ => ?_)
  · have k := k.1 q_
    refine sp_iload 53 rfl rfl rfl ?_
    exact st_zret rfl rfl k.1 (Nat.le_refl _) (Nat.le_refl _) k.2
  · have k := k.2 q_
    refine sp_iload 16 rfl rfl rfl ?_
    refine sp_if_eq 19 rfl rfl (fun q_ => ?_) (fun q_ => ?_)
    · have k := k.1 q_
      refine sp_iload 53 rfl rfl rfl ?_
      exact st_zret rfl rfl k.1 (Nat.le_refl _) (Nat.le_refl _) k.2
    · have k := k.2 q_
      refine sp_lload_n 20 rfl rfl rfl ?_
      refine sp_iload_n 21 rfl rfl rfl ?_
      refine sp_i2l 22 rfl rfl ?_
      refine sp_iload_n 23 rfl rfl rfl ?_
      refine sp_iload 25 rfl rfl rfl ?_
      refine sp_i2l 26 rfl rfl ?_
      refine sc_S 29 rfl rfl rfl rfl (Nat.le_refl _) (Nat.le_refl _) rfl ?_
      refine mm_s_mono _ _ _ _ _ _ ?_ k
      rintro r_ h_ ⟨x1, I1, J1, rfl, rfl, k⟩
      refine hs_S (st2 := [.long x1, .long v2]) rfl ?_
      refine sp_l2i 30 rfl rfl ?_
      refine sp_lshr 31 rfl rfl ?_
      refine sp_lconst 32 rfl rfl ?_
      refine sp_J (y := Int64.ofInt 1) rfl ?_
      refine sp_land 33 rfl rfl ?_
      refine sp_lconst 34 rfl rfl ?_
      refine sp_J (y := Int64.ofInt 1) rfl ?_
      refine sp_lcmp 35 rfl rfl ?_
      refine sp_if_ne 38 rfl rfl (fun q_ => ?_) (fun q_ => ?_)
      · have k := k.2 (fun z_ => q_ ((lg_cmp_eq _ _).mpr z_))
        refine sp_iconst 43 rfl rfl ?_
        refine hs_istore 45 (L2 := [some (.int v0), some (.int v1), some (.long v2), none, some (.int v4), some (.int v5), some (.int (Int32.ofInt 0)), some (.int v7)]) rfl rfl rfl rfl ?_
        refine hs_iinc 48 (L2 := [some (.int v0), some (.int v1), some (.long v2), none, some (.int v4), some (.int v5), some (.int (Int32.ofInt 0)), some (.int (v7 + Int32.ofInt 1))]) rfl rfl rfl rfl rfl ?_
        refine sp_goto rfl ?_
        exact k
      · have k := k.1 ((lg_cmp_eq _ _).mp q_)
        refine sp_iconst 39 rfl rfl ?_
        refine sp_goto rfl ?_
        refine hs_istore 45 (L2 := [some (.int v0), some (.int v1), some (.long v2), none, some (.int v4), some (.int v5), some (.int (Int32.ofInt 1)), some (.int v7)]) rfl rfl rfl rfl ?_
        refine hs_iinc 48 (L2 := [some (.int v0), some (.int v1), some (.long v2), none, some (.int v4), some (.int v5), some (.int (Int32.ofInt 1)), some (.int (v7 + Int32.ofInt 1))]) rfl rfl rfl rfl rfl ?_
        refine sp_goto rfl ?_
        exact k
def w_X11_number_20 (SL : Nat) (xs : Nat → Int32) (d : Nat) (p s q : Nat) (Q : Option Value → mm_H → Prop) (v1 : Int32) (v2 : Int32) (I : Nat → Nat → Int32) (J : Nat → Nat → Int64) : Prop := mm_w SL xs (mm_s SL xs (d + 1)) mm_am kX11_number 0 0 (some .long) Q 20 [some (.ref 65), some (.int v1), some (.int v2), none, none, none, none, none, none, none, none, none] [] (hp p s q I J) 0 0
def w_X11_number_80 (SL : Nat) (xs : Nat → Int32) (d : Nat) (p s q : Nat) (Q : Option Value → mm_H → Prop) (v1 : Int32) (v2 : Int32) (v3 : Int64) (v5 : Int64) (v7 : Int32) (v8 : Int32) (I : Nat → Nat → Int32) (J : Nat → Nat → Int64) : Prop := mm_w SL xs (mm_s SL xs (d + 1)) mm_am kX11_number 0 0 (some .long) Q 80 [some (.ref 65), some (.int v1), some (.int v2), some (.long v3), none, some (.long v5), none, some (.int v7), some (.int v8), none, none, none] [] (hp p s q I J) 0 0
def w_X11_number_130 (SL : Nat) (xs : Nat → Int32) (d : Nat) (p s q : Nat) (Q : Option Value → mm_H → Prop) (v1 : Int32) (v2 : Int32) (v3 : Int64) (v5 : Int64) (v7 : Int32) (v8 : Int32) (v9 : Int32) (v10 : Int32) (v11 : Int32) (I : Nat → Nat → Int32) (J : Nat → Nat → Int64) : Prop := mm_w SL xs (mm_s SL xs (d + 1)) mm_am kX11_number 0 0 (some .long) Q 130 [some (.ref 65), some (.int v1), some (.int v2), some (.long v3), none, some (.long v5), none, some (.int v7), some (.int v8), some (.int v9), some (.int v10), some (.int v11)] [] (hp p s q I J) 0 0
theorem sg_X11_number {SL : Nat} {xs : Nat → Int32} {d : Nat} {p s q : Nat} {Q : Option Value → mm_H → Prop} {a0 : Int32} {I : Nat → Nat → Int32} {J : Nat → Nat → Int64}  (k : (((sx_X11_isSmall a0) = Int32.ofInt 0 → Q (some (.long (Int64.ofInt (-1)))) (hp p s q I J)) ∧ (¬ ((sx_X11_isSmall a0) = Int32.ofInt 0) → (((I 65 80) = Int32.ofInt 0 → Q (some (.long (Int64.ofInt (-1)))) (hp p s q I J)) ∧ (¬ ((I 65 80) = Int32.ofInt 0) → w_X11_number_20 SL xs d p s q Q a0 (Int32.ofInt 0) I J))))) : mm_s SL xs (d + 2) 245 [.ref 65, .int a0] (hp p s q I J) Q := by
  refine e_X11_number rfl ?_
  refine hs_L (L2 := [some (.ref 65), some (.int a0), none, none, none, none, none, none, none, none, none, none]) rfl ?_
  refine sp_iload_n 1 rfl rfl rfl ?_
  refine sc_S 4 rfl rfl rfl rfl (Nat.le_refl _) (Nat.le_refl _) rfl ?_
  refine cx_X11_isSmall ?_
  refine hs_S (st2 := [.int (sx_X11_isSmall a0)]) rfl ?_
  refine sp_if_eq 7 rfl rfl (fun q_ => ?_) (fun q_ => ?_)
  · have k := k.1 q_
    refine sp_ldc2 17 rfl rfl ?_
    exact st_lret rfl rfl (Nat.le_refl _) (Nat.le_refl _) k
  · have k := k.2 q_
    refine sp_aload_n 8 rfl rfl rfl ?_
    refine hq_getI 11 rfl rfl rfl ?_
    refine sp_if_ne 14 rfl rfl (fun q_ => ?_) (fun q_ => ?_)
    · have k := k.2 q_
      refine sp_iconst 19 rfl rfl ?_
      refine hs_istore_n 20 (L2 := [some (.ref 65), some (.int a0), some (.int (Int32.ofInt 0)), none, none, none, none, none, none, none, none, none]) rfl rfl rfl rfl ?_
      exact k
    · have k := k.1 q_
      refine sp_ldc2 17 rfl rfl ?_
      exact st_lret rfl rfl (Nat.le_refl _) (Nat.le_refl _) k
theorem sg_X11_number_20 {SL : Nat} {xs : Nat → Int32} {d : Nat} {p s q : Nat} {Q : Option Value → mm_H → Prop} {v1 : Int32} {v2 : Int32} {I : Nat → Nat → Int32} {J : Nat → Nat → Int64}  (k : (((Int32.ofInt 60) ≤ v2 → (((Int32.ofInt 8) ≤ (I 65 80) → w_X11_number_80 SL xs d p s q Q v1 (Int32.ofInt 8) (Int64.ofInt 0) (Int64.ofInt 1) (v1 - (Int32.ofInt 1)) (Int32.ofInt 0) I J) ∧ (¬ ((Int32.ofInt 8) ≤ (I 65 80)) → w_X11_number_80 SL xs d p s q Q v1 (I 65 80) (Int64.ofInt 0) (Int64.ofInt 1) (v1 - (Int32.ofInt 1)) (Int32.ofInt 0) I J))) ∧ (¬ ((Int32.ofInt 60) ≤ v2) → ((v1 ≤ v2 → (vp_in v2 60 ∧ w_X11_number_20 SL xs d p s q Q v1 (v2 + Int32.ofInt 1) (mm_u I 98 ((v2).toNatClampNeg) (Int32.ofInt 0)) J)) ∧ (¬ (v1 ≤ v2) → (vp_in v2 60 ∧ w_X11_number_20 SL xs d p s q Q v1 (v2 + Int32.ofInt 1) (mm_u I 98 ((v2).toNatClampNeg) (Int32.ofInt 1)) J)))))) : w_X11_number_20 SL xs d p s q Q v1 v2 I J := by
  unfold w_X11_number_20
  refine sp_iload_n 21 rfl rfl rfl ?_
  refine sp_bipush 23 rfl rfl ?_
  refine sp_I (y := Int32.ofInt 60) rfl ?_
  refine sp_ic_ge 26 rfl rfl (fun q_ => ?_) (fun q_ => ?_)
  · have k := k.1 q_
    refine sp_aload_n 49 rfl rfl rfl ?_
    refine hq_getI 52 rfl rfl rfl ?_
    refine sp_bipush 54 rfl rfl ?_
    refine sp_I (y := Int32.ofInt 8) rfl ?_
    refine sp_ic_ge 57 rfl rfl (fun q_ => ?_) (fun q_ => ?_)
    · have k := k.1 q_
      refine sp_bipush 66 rfl rfl ?_
      refine sp_I (y := Int32.ofInt 8) rfl ?_
      refine hs_istore_n 67 (L2 := [some (.ref 65), some (.int v1), some (.int (Int32.ofInt 8)), none, none, none, none, none, none, none, none, none]) rfl rfl rfl rfl ?_
      refine sp_lconst 68 rfl rfl ?_
      refine sp_J (y := Int64.ofInt 0) rfl ?_
      refine hs_lstore_n 69 (L2 := [some (.ref 65), some (.int v1), some (.int (Int32.ofInt 8)), some (.long (Int64.ofInt 0)), none, none, none, none, none, none, none, none]) rfl rfl rfl rfl ?_
      refine sp_lconst 70 rfl rfl ?_
      refine sp_J (y := Int64.ofInt 1) rfl ?_
      refine hs_lstore 72 (L2 := [some (.ref 65), some (.int v1), some (.int (Int32.ofInt 8)), some (.long (Int64.ofInt 0)), none, some (.long (Int64.ofInt 1)), none, none, none, none, none, none]) rfl rfl rfl rfl ?_
      refine sp_iload_n 73 rfl rfl rfl ?_
      refine sp_iconst 74 rfl rfl ?_
      refine sp_isub 75 rfl rfl ?_
      refine hs_istore 77 (L2 := [some (.ref 65), some (.int v1), some (.int (Int32.ofInt 8)), some (.long (Int64.ofInt 0)), none, some (.long (Int64.ofInt 1)), none, some (.int (v1 - (Int32.ofInt 1))), none, none, none, none]) rfl rfl rfl rfl ?_
      refine sp_iconst 78 rfl rfl ?_
      refine hs_istore 80 (L2 := [some (.ref 65), some (.int v1), some (.int (Int32.ofInt 8)), some (.long (Int64.ofInt 0)), none, some (.long (Int64.ofInt 1)), none, some (.int (v1 - (Int32.ofInt 1))), some (.int (Int32.ofInt 0)), none, none, none]) rfl rfl rfl rfl ?_
      exact k
    · have k := k.2 q_
      refine sp_aload_n 58 rfl rfl rfl ?_
      refine hq_getI 61 rfl rfl rfl ?_
      refine sp_goto rfl ?_
      refine hs_istore_n 67 (L2 := [some (.ref 65), some (.int v1), some (.int (I 65 80)), none, none, none, none, none, none, none, none, none]) rfl rfl rfl rfl ?_
      refine sp_lconst 68 rfl rfl ?_
      refine sp_J (y := Int64.ofInt 0) rfl ?_
      refine hs_lstore_n 69 (L2 := [some (.ref 65), some (.int v1), some (.int (I 65 80)), some (.long (Int64.ofInt 0)), none, none, none, none, none, none, none, none]) rfl rfl rfl rfl ?_
      refine sp_lconst 70 rfl rfl ?_
      refine sp_J (y := Int64.ofInt 1) rfl ?_
      refine hs_lstore 72 (L2 := [some (.ref 65), some (.int v1), some (.int (I 65 80)), some (.long (Int64.ofInt 0)), none, some (.long (Int64.ofInt 1)), none, none, none, none, none, none]) rfl rfl rfl rfl ?_
      refine sp_iload_n 73 rfl rfl rfl ?_
      refine sp_iconst 74 rfl rfl ?_
      refine sp_isub 75 rfl rfl ?_
      refine hs_istore 77 (L2 := [some (.ref 65), some (.int v1), some (.int (I 65 80)), some (.long (Int64.ofInt 0)), none, some (.long (Int64.ofInt 1)), none, some (.int (v1 - (Int32.ofInt 1))), none, none, none, none]) rfl rfl rfl rfl ?_
      refine sp_iconst 78 rfl rfl ?_
      refine hs_istore 80 (L2 := [some (.ref 65), some (.int v1), some (.int (I 65 80)), some (.long (Int64.ofInt 0)), none, some (.long (Int64.ofInt 1)), none, some (.int (v1 - (Int32.ofInt 1))), some (.int (Int32.ofInt 0)), none, none, none]) rfl rfl rfl rfl ?_
      exact k
  · have k := k.2 q_
    refine sp_aload_n 27 rfl rfl rfl ?_
    refine hq_getR 30 rfl rfl rfl rfl ?_
    refine sp_iload_n 31 rfl rfl rfl ?_
    refine sp_iload_n 32 rfl rfl rfl ?_
    refine sp_iload_n 33 rfl rfl rfl ?_
    refine sp_ic_ge 36 rfl rfl (fun q_ => ?_) (fun q_ => ?_)
    · have k := k.1 q_
      refine sp_iconst 41 rfl rfl ?_
      have n1_ := k.1
      have k := k.2
      refine hq_zast 42 rfl rfl n1_ (by decide) rfl ?_
      refine hs_iinc 45 (L2 := [some (.ref 65), some (.int v1), some (.int (v2 + Int32.ofInt 1)), none, none, none, none, none, none, none, none, none]) rfl rfl rfl rfl rfl ?_
      refine sp_goto rfl ?_
      exact k
    · have k := k.2 q_
      refine sp_iconst 37 rfl rfl ?_
      refine sp_goto rfl ?_
      have n2_ := k.1
      have k := k.2
      refine hq_zast 42 rfl rfl n2_ (by decide) rfl ?_
      refine hs_iinc 45 (L2 := [some (.ref 65), some (.int v1), some (.int (v2 + Int32.ofInt 1)), none, none, none, none, none, none, none, none, none]) rfl rfl rfl rfl rfl ?_
      refine sp_goto rfl ?_
      exact k
theorem sg_X11_number_80 {SL : Nat} {xs : Nat → Int32} {d : Nat} {p s q : Nat} {Q : Option Value → mm_H → Prop} {v1 : Int32} {v2 : Int32} {v3 : Int64} {v5 : Int64} {v7 : Int32} {v8 : Int32} {I : Nat → Nat → Int32} {J : Nat → Nat → Int64}  (k : ((v2 ≤ v8 → ((v3 = (Int64.ofInt 0) → Q (some (.long v5)) (hp p s q I J)) ∧ (¬ (v3 = (Int64.ofInt 0)) → Q (some (.long v3)) (hp p s q I J)))) ∧ (¬ (v2 ≤ v8) → (((Int32.ofInt 1) ≤ (v1 - v8) → (vp_in v8 60 ∧ (mm_s SL xs (d + 1) 244 [.ref 65, .int v1, .int v7, .int (I 97 ((v8).toNatClampNeg))] (hp p s q I J) (fun r_ h_ => ∃ x1 I1 J1, r_ = some (.int x1) ∧ h_ = hp p s q I1 J1 ∧ ((x1 = Int32.ofInt 0 → Q (some (.long (Int64.ofInt (-1)))) (hp p s q I1 J1)) ∧ (¬ (x1 = Int32.ofInt 0) → w_X11_number_130 SL xs d p s q Q v1 v2 v3 v5 v7 v8 (v1 - v8) x1 (Int32.ofInt 0) I1 J1)))))) ∧ (¬ ((Int32.ofInt 1) ≤ (v1 - v8)) → Q (some (.long (Int64.ofInt (-1)))) (hp p s q I J)))))) : w_X11_number_80 SL xs d p s q Q v1 v2 v3 v5 v7 v8 I J := by
  unfold w_X11_number_80
  refine sp_iload 82 rfl rfl rfl ?_
  refine sp_iload_n 83 rfl rfl rfl ?_
  refine sp_ic_ge 86 rfl rfl (fun q_ => ?_) (fun q_ => ?_)
  · have k := k.1 q_
    refine sp_lload_n 231 rfl rfl rfl ?_
    refine sp_lconst 232 rfl rfl ?_
    refine sp_J (y := Int64.ofInt 0) rfl ?_
    refine sp_lcmp 233 rfl rfl ?_
    refine sp_if_ne 236 rfl rfl (fun q_ => ?_) (fun q_ => ?_)
    · have k := k.2 (fun z_ => q_ ((lg_cmp_eq _ _).mpr z_))
      refine sp_lload_n 242 rfl rfl rfl ?_
      exact st_lret rfl rfl (Nat.le_refl _) (Nat.le_refl _) k
    · have k := k.1 ((lg_cmp_eq _ _).mp q_)
      refine sp_lload 238 rfl rfl rfl ?_
      refine sp_goto rfl ?_
      exact st_lret rfl rfl (Nat.le_refl _) (Nat.le_refl _) k
  · have k := k.2 q_
    refine sp_iload_n 87 rfl rfl rfl ?_
    refine sp_iload 89 rfl rfl rfl ?_
    refine sp_isub 90 rfl rfl ?_
    refine hs_istore 92 (L2 := [some (.ref 65), some (.int v1), some (.int v2), some (.long v3), none, some (.long v5), none, some (.int v7), some (.int v8), some (.int (v1 - v8)), none, none]) rfl rfl rfl rfl ?_
    refine sp_iload 94 rfl rfl rfl ?_
    refine sp_iconst 95 rfl rfl ?_
    refine sp_ic_ge 98 rfl rfl (fun q_ => ?_) (fun q_ => ?_)
    · have k := k.1 q_
      refine sp_aload_n 103 rfl rfl rfl ?_
      refine sp_iload_n 104 rfl rfl rfl ?_
      refine sp_iload 106 rfl rfl rfl ?_
      refine sp_aload_n 107 rfl rfl rfl ?_
      refine hq_getR 110 rfl rfl rfl rfl ?_
      refine sp_iload 112 rfl rfl rfl ?_
      have n3_ := k.1
      have k := k.2
      refine hq_iald 113 rfl rfl n3_ rfl ?_
      refine sc_V 116 rfl rfl rfl rfl rfl (Nat.le_refl _) (Nat.le_refl _) rfl ?_
      refine mm_s_mono _ _ _ _ _ _ ?_ k
      rintro r_ h_ ⟨x1, I1, J1, rfl, rfl, k⟩
      refine hs_S (st2 := [.int x1]) rfl ?_
      refine hs_istore 118 (L2 := [some (.ref 65), some (.int v1), some (.int v2), some (.long v3), none, some (.long v5), none, some (.int v7), some (.int v8), some (.int (v1 - v8)), some (.int x1), none]) rfl rfl rfl rfl ?_
      refine sp_iload 120 rfl rfl rfl ?_
      refine sp_if_ne 123 rfl rfl (fun q_ => ?_) (fun q_ => ?_)
      · have k := k.2 q_
        refine sp_iconst 128 rfl rfl ?_
        refine hs_istore 130 (L2 := [some (.ref 65), some (.int v1), some (.int v2), some (.long v3), none, some (.long v5), none, some (.int v7), some (.int v8), some (.int (v1 - v8)), some (.int x1), some (.int (Int32.ofInt 0))]) rfl rfl rfl rfl ?_
        exact k
      · have k := k.1 q_
        refine sp_ldc2 126 rfl rfl ?_
        exact st_lret rfl rfl (Nat.le_refl _) (Nat.le_refl _) k
    · have k := k.2 q_
      refine sp_iconst 99 rfl rfl ?_
      refine sp_goto rfl ?_
      refine hs_istore 118 (L2 := [some (.ref 65), some (.int v1), some (.int v2), some (.long v3), none, some (.long v5), none, some (.int v7), some (.int v8), some (.int (v1 - v8)), some (.int (Int32.ofInt 0)), none]) rfl rfl rfl rfl ?_
      refine sp_iload 120 rfl rfl rfl ?_
      refine sp_if_ne 123 rfl rfl (fun q_ => absurd q_ (by decide)) (fun _ => ?_)
      refine sp_ldc2 126 rfl rfl ?_
      exact st_lret rfl rfl (Nat.le_refl _) (Nat.le_refl _) k
theorem sg_X11_number_130 {SL : Nat} {xs : Nat → Int32} {d : Nat} {p s q : Nat} {Q : Option Value → mm_H → Prop} {v1 : Int32} {v2 : Int32} {v3 : Int64} {v5 : Int64} {v7 : Int32} {v8 : Int32} {v9 : Int32} {v10 : Int32} {v11 : Int32} {I : Nat → Nat → Int32} {J : Nat → Nat → Int64}  (k : ((v9 ≤ v11 → ((v11 = v9 → Q (some (.long (Int64.ofInt (-1)))) (hp p s q I J)) ∧ (¬ (v11 = v9) → (mm_s SL xs (d + 1) 243 [.long v5, .long ((v9).toInt64)] (hp p s q I J) (fun r_ h_ => ∃ x1 I1 J1, r_ = some (.long x1) ∧ h_ = hp p s q I1 J1 ∧ (¬ x1 = 0 ∧ (¬ ((v5 / x1) * ((v9).toInt64)) = 0 ∧ (vp_in v8 60 ∧ (vp_in (I1 97 ((v8).toNatClampNeg)) 60 ∧ w_X11_number_80 SL xs d p s q Q v1 v2 ((v3 + (((v11).toInt64) * v5)) - (v3 + (((v11).toInt64) * v5)) / ((v5 / x1) * ((v9).toInt64)) * ((v5 / x1) * ((v9).toInt64))) ((v5 / x1) * ((v9).toInt64)) (I1 97 ((v8).toNatClampNeg)) (v8 + Int32.ofInt 1) (mm_u I1 98 (((I1 97 ((v8).toNatClampNeg))).toNatClampNeg) (Int32.ofInt 0)) J1))))))))) ∧ (¬ (v9 ≤ v11) → (¬ ((v9).toInt64) = 0 ∧ (¬ v9 = 0 ∧ ((((v3 + (((v11).toInt64) * v5)) - (v3 + (((v11).toInt64) * v5)) / ((v9).toInt64) * ((v9).toInt64)) = (((v10 - v10 / v9 * v9)).toInt64) → ((v11 = v9 → Q (some (.long (Int64.ofInt (-1)))) (hp p s q I J)) ∧ (¬ (v11 = v9) → (mm_s SL xs (d + 1) 243 [.long v5, .long ((v9).toInt64)] (hp p s q I J) (fun r_ h_ => ∃ x2 I2 J2, r_ = some (.long x2) ∧ h_ = hp p s q I2 J2 ∧ (¬ x2 = 0 ∧ (¬ ((v5 / x2) * ((v9).toInt64)) = 0 ∧ (vp_in v8 60 ∧ (vp_in (I2 97 ((v8).toNatClampNeg)) 60 ∧ w_X11_number_80 SL xs d p s q Q v1 v2 ((v3 + (((v11).toInt64) * v5)) - (v3 + (((v11).toInt64) * v5)) / ((v5 / x2) * ((v9).toInt64)) * ((v5 / x2) * ((v9).toInt64))) ((v5 / x2) * ((v9).toInt64)) (I2 97 ((v8).toNatClampNeg)) (v8 + Int32.ofInt 1) (mm_u I2 98 (((I2 97 ((v8).toNatClampNeg))).toNatClampNeg) (Int32.ofInt 0)) J2))))))))) ∧ (¬ (((v3 + (((v11).toInt64) * v5)) - (v3 + (((v11).toInt64) * v5)) / ((v9).toInt64) * ((v9).toInt64)) = (((v10 - v10 / v9 * v9)).toInt64)) → w_X11_number_130 SL xs d p s q Q v1 v2 v3 v5 v7 v8 v9 v10 (v11 + Int32.ofInt 1) I J))))))) : w_X11_number_130 SL xs d p s q Q v1 v2 v3 v5 v7 v8 v9 v10 v11 I J := by
  unfold w_X11_number_130
  refine sp_iload 132 rfl rfl rfl ?_
  refine sp_iload 134 rfl rfl rfl ?_
  refine sp_ic_ge 137 rfl rfl (fun q_ => ?_) (fun q_ => ?_)
  · have k := k.1 q_
    refine sp_iload 167 rfl rfl rfl ?_
    refine sp_iload 169 rfl rfl rfl ?_
    refine sp_ic_ne 172 rfl rfl (fun q_ => ?_) (fun q_ => ?_)
    · have k := k.2 q_
      refine sp_lload_n 177 rfl rfl rfl ?_
      refine sp_iload 179 rfl rfl rfl ?_
      refine sp_i2l 180 rfl rfl ?_
      refine sp_lload 182 rfl rfl rfl ?_
      refine sp_lmul 183 rfl rfl ?_
      refine sp_ladd 184 rfl rfl ?_
      refine hs_lstore_n 185 (L2 := [some (.ref 65), some (.int v1), some (.int v2), some (.long (v3 + (((v11).toInt64) * v5))), none, some (.long v5), none, some (.int v7), some (.int v8), some (.int v9), some (.int v10), some (.int v11)]) rfl rfl rfl rfl ?_
      refine sp_lload 187 rfl rfl rfl ?_
      refine sp_lload 189 rfl rfl rfl ?_
      refine sp_iload 191 rfl rfl rfl ?_
      refine sp_i2l 192 rfl rfl ?_
      refine sc_S 195 rfl rfl rfl rfl (Nat.le_refl _) (Nat.le_refl _) rfl ?_
      refine mm_s_mono _ _ _ _ _ _ ?_ k
      rintro r_ h_ ⟨x1, I1, J1, rfl, rfl, k⟩
      refine hs_S (st2 := [.long x1, .long v5]) rfl ?_
      have n4_ := k.1
      have k := k.2
      refine sp_ldiv 196 rfl n4_ rfl ?_
      refine sp_iload 198 rfl rfl rfl ?_
      refine sp_i2l 199 rfl rfl ?_
      refine sp_lmul 200 rfl rfl ?_
      refine hs_lstore 202 (L2 := [some (.ref 65), some (.int v1), some (.int v2), some (.long (v3 + (((v11).toInt64) * v5))), none, some (.long ((v5 / x1) * ((v9).toInt64))), none, some (.int v7), some (.int v8), some (.int v9), some (.int v10), some (.int v11)]) rfl rfl rfl rfl ?_
      refine sp_lload_n 203 rfl rfl rfl ?_
      refine sp_lload 205 rfl rfl rfl ?_
      have n5_ := k.1
      have k := k.2
      refine sp_lrem 206 rfl n5_ rfl ?_
      refine hs_lstore_n 207 (L2 := [some (.ref 65), some (.int v1), some (.int v2), some (.long ((v3 + (((v11).toInt64) * v5)) - (v3 + (((v11).toInt64) * v5)) / ((v5 / x1) * ((v9).toInt64)) * ((v5 / x1) * ((v9).toInt64)))), none, some (.long ((v5 / x1) * ((v9).toInt64))), none, some (.int v7), some (.int v8), some (.int v9), some (.int v10), some (.int v11)]) rfl rfl rfl rfl ?_
      refine sp_aload_n 208 rfl rfl rfl ?_
      refine hq_getR 211 rfl rfl rfl rfl ?_
      refine sp_iload 213 rfl rfl rfl ?_
      have n6_ := k.1
      have k := k.2
      refine hq_iald 214 rfl rfl n6_ rfl ?_
      refine hs_istore 216 (L2 := [some (.ref 65), some (.int v1), some (.int v2), some (.long ((v3 + (((v11).toInt64) * v5)) - (v3 + (((v11).toInt64) * v5)) / ((v5 / x1) * ((v9).toInt64)) * ((v5 / x1) * ((v9).toInt64)))), none, some (.long ((v5 / x1) * ((v9).toInt64))), none, some (.int (I1 97 ((v8).toNatClampNeg))), some (.int v8), some (.int v9), some (.int v10), some (.int v11)]) rfl rfl rfl rfl ?_
      refine sp_aload_n 217 rfl rfl rfl ?_
      refine hq_getR 220 rfl rfl rfl rfl ?_
      refine sp_iload 222 rfl rfl rfl ?_
      refine sp_iconst 223 rfl rfl ?_
      have n7_ := k.1
      have k := k.2
      refine hq_zast 224 rfl rfl n7_ (by decide) rfl ?_
      refine hs_iinc 227 (L2 := [some (.ref 65), some (.int v1), some (.int v2), some (.long ((v3 + (((v11).toInt64) * v5)) - (v3 + (((v11).toInt64) * v5)) / ((v5 / x1) * ((v9).toInt64)) * ((v5 / x1) * ((v9).toInt64)))), none, some (.long ((v5 / x1) * ((v9).toInt64))), none, some (.int (I1 97 ((v8).toNatClampNeg))), some (.int (v8 + Int32.ofInt 1)), some (.int v9), some (.int v10), some (.int v11)]) rfl rfl rfl rfl rfl ?_
      refine sp_goto rfl ?_
      refine st_wk (L1 := [some (.ref 65), some (.int v1), some (.int v2), some (.long ((v3 + (((v11).toInt64) * v5)) - (v3 + (((v11).toInt64) * v5)) / ((v5 / x1) * ((v9).toInt64)) * ((v5 / x1) * ((v9).toInt64)))), none, some (.long ((v5 / x1) * ((v9).toInt64))), none, some (.int (I1 97 ((v8).toNatClampNeg))), some (.int (v8 + Int32.ofInt 1)), none, none, none]) ⟨.inr rfl, .inr rfl, .inr rfl, .inr rfl, .inl rfl, .inr rfl, .inl rfl, .inr rfl, .inr rfl, .inl rfl, .inl rfl, .inl rfl, trivial⟩ ?_
      exact k
    · have k := k.1 q_
      refine sp_ldc2 175 rfl rfl ?_
      exact st_lret rfl rfl (Nat.le_refl _) (Nat.le_refl _) k
  · have k := k.2 q_
    refine sp_lload_n 138 rfl rfl rfl ?_
    refine sp_iload 140 rfl rfl rfl ?_
    refine sp_i2l 141 rfl rfl ?_
    refine sp_lload 143 rfl rfl rfl ?_
    refine sp_lmul 144 rfl rfl ?_
    refine sp_ladd 145 rfl rfl ?_
    refine sp_iload 147 rfl rfl rfl ?_
    refine sp_i2l 148 rfl rfl ?_
    have n8_ := k.1
    have k := k.2
    refine sp_lrem 149 rfl n8_ rfl ?_
    refine sp_iload 151 rfl rfl rfl ?_
    refine sp_iload 153 rfl rfl rfl ?_
    have n9_ := k.1
    have k := k.2
    refine sp_irem 154 rfl n9_ rfl ?_
    refine sp_i2l 155 rfl rfl ?_
    refine sp_lcmp 156 rfl rfl ?_
    refine sp_if_eq 159 rfl rfl (fun q_ => ?_) (fun q_ => ?_)
    · have k := k.1 ((lg_cmp_eq _ _).mp q_)
      refine sp_iload 167 rfl rfl rfl ?_
      refine sp_iload 169 rfl rfl rfl ?_
      refine sp_ic_ne 172 rfl rfl (fun q_ => ?_) (fun q_ => ?_)
      · have k := k.2 q_
        refine sp_lload_n 177 rfl rfl rfl ?_
        refine sp_iload 179 rfl rfl rfl ?_
        refine sp_i2l 180 rfl rfl ?_
        refine sp_lload 182 rfl rfl rfl ?_
        refine sp_lmul 183 rfl rfl ?_
        refine sp_ladd 184 rfl rfl ?_
        refine hs_lstore_n 185 (L2 := [some (.ref 65), some (.int v1), some (.int v2), some (.long (v3 + (((v11).toInt64) * v5))), none, some (.long v5), none, some (.int v7), some (.int v8), some (.int v9), some (.int v10), some (.int v11)]) rfl rfl rfl rfl ?_
        refine sp_lload 187 rfl rfl rfl ?_
        refine sp_lload 189 rfl rfl rfl ?_
        refine sp_iload 191 rfl rfl rfl ?_
        refine sp_i2l 192 rfl rfl ?_
        refine sc_S 195 rfl rfl rfl rfl (Nat.le_refl _) (Nat.le_refl _) rfl ?_
        refine mm_s_mono _ _ _ _ _ _ ?_ k
        rintro r_ h_ ⟨x2, I2, J2, rfl, rfl, k⟩
        refine hs_S (st2 := [.long x2, .long v5]) rfl ?_
        have n10_ := k.1
        have k := k.2
        refine sp_ldiv 196 rfl n10_ rfl ?_
        refine sp_iload 198 rfl rfl rfl ?_
        refine sp_i2l 199 rfl rfl ?_
        refine sp_lmul 200 rfl rfl ?_
        refine hs_lstore 202 (L2 := [some (.ref 65), some (.int v1), some (.int v2), some (.long (v3 + (((v11).toInt64) * v5))), none, some (.long ((v5 / x2) * ((v9).toInt64))), none, some (.int v7), some (.int v8), some (.int v9), some (.int v10), some (.int v11)]) rfl rfl rfl rfl ?_
        refine sp_lload_n 203 rfl rfl rfl ?_
        refine sp_lload 205 rfl rfl rfl ?_
        have n11_ := k.1
        have k := k.2
        refine sp_lrem 206 rfl n11_ rfl ?_
        refine hs_lstore_n 207 (L2 := [some (.ref 65), some (.int v1), some (.int v2), some (.long ((v3 + (((v11).toInt64) * v5)) - (v3 + (((v11).toInt64) * v5)) / ((v5 / x2) * ((v9).toInt64)) * ((v5 / x2) * ((v9).toInt64)))), none, some (.long ((v5 / x2) * ((v9).toInt64))), none, some (.int v7), some (.int v8), some (.int v9), some (.int v10), some (.int v11)]) rfl rfl rfl rfl ?_
        refine sp_aload_n 208 rfl rfl rfl ?_
        refine hq_getR 211 rfl rfl rfl rfl ?_
        refine sp_iload 213 rfl rfl rfl ?_
        have n12_ := k.1
        have k := k.2
        refine hq_iald 214 rfl rfl n12_ rfl ?_
        refine hs_istore 216 (L2 := [some (.ref 65), some (.int v1), some (.int v2), some (.long ((v3 + (((v11).toInt64) * v5)) - (v3 + (((v11).toInt64) * v5)) / ((v5 / x2) * ((v9).toInt64)) * ((v5 / x2) * ((v9).toInt64)))), none, some (.long ((v5 / x2) * ((v9).toInt64))), none, some (.int (I2 97 ((v8).toNatClampNeg))), some (.int v8), some (.int v9), some (.int v10), some (.int v11)]) rfl rfl rfl rfl ?_
        refine sp_aload_n 217 rfl rfl rfl ?_
        refine hq_getR 220 rfl rfl rfl rfl ?_
        refine sp_iload 222 rfl rfl rfl ?_
        refine sp_iconst 223 rfl rfl ?_
        have n13_ := k.1
        have k := k.2
        refine hq_zast 224 rfl rfl n13_ (by decide) rfl ?_
        refine hs_iinc 227 (L2 := [some (.ref 65), some (.int v1), some (.int v2), some (.long ((v3 + (((v11).toInt64) * v5)) - (v3 + (((v11).toInt64) * v5)) / ((v5 / x2) * ((v9).toInt64)) * ((v5 / x2) * ((v9).toInt64)))), none, some (.long ((v5 / x2) * ((v9).toInt64))), none, some (.int (I2 97 ((v8).toNatClampNeg))), some (.int (v8 + Int32.ofInt 1)), some (.int v9), some (.int v10), some (.int v11)]) rfl rfl rfl rfl rfl ?_
        refine sp_goto rfl ?_
        refine st_wk (L1 := [some (.ref 65), some (.int v1), some (.int v2), some (.long ((v3 + (((v11).toInt64) * v5)) - (v3 + (((v11).toInt64) * v5)) / ((v5 / x2) * ((v9).toInt64)) * ((v5 / x2) * ((v9).toInt64)))), none, some (.long ((v5 / x2) * ((v9).toInt64))), none, some (.int (I2 97 ((v8).toNatClampNeg))), some (.int (v8 + Int32.ofInt 1)), none, none, none]) ⟨.inr rfl, .inr rfl, .inr rfl, .inr rfl, .inl rfl, .inr rfl, .inl rfl, .inr rfl, .inr rfl, .inl rfl, .inl rfl, .inl rfl, trivial⟩ ?_
        exact k
      · have k := k.1 q_
        refine sp_ldc2 175 rfl rfl ?_
        exact st_lret rfl rfl (Nat.le_refl _) (Nat.le_refl _) k
    · have k := k.2 (fun z_ => q_ ((lg_cmp_eq _ _).mpr z_))
      refine hs_iinc 162 (L2 := [some (.ref 65), some (.int v1), some (.int v2), some (.long v3), none, some (.long v5), none, some (.int v7), some (.int v8), some (.int v9), some (.int v10), some (.int (v11 + Int32.ofInt 1))]) rfl rfl rfl rfl rfl ?_
      refine sp_goto rfl ?_
      exact k
