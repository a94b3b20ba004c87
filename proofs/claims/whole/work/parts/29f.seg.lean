theorem sg_X11_chance {SL : Nat} {xs : Nat → Int32} {d : Nat} {p s q : Nat} {Q : Option Value → mm_H → Prop} {a0 : Int32} {a1 : Int32} {a2 : Int32} {I : Nat → Nat → Int32} {J : Nat → Nat → Int64}  (k : (((sx_X11_isSmall a0) = Int32.ofInt 0 → Q (some (.int (Int32.ofInt (-1)))) (hp p s q I J)) ∧ (¬ ((sx_X11_isSmall a0) = Int32.ofInt 0) → ((a1 < Int32.ofInt 0 → Q (some (.int (Int32.ofInt (-1)))) (hp p s q I J)) ∧ (¬ (a1 < Int32.ofInt 0) → ((a0 ≤ a1 → Q (some (.int (Int32.ofInt (-1)))) (hp p s q I J)) ∧ (¬ (a0 ≤ a1) → (((sx_X11_isPart a2) = Int32.ofInt 0 → Q (some (.int (Int32.ofInt (-1)))) (hp p s q I J)) ∧ (¬ ((sx_X11_isPart a2) = Int32.ofInt 0) → (((I 65 44) ≤ Int32.ofInt 0 → Q (some (.int (Int32.ofInt (-1)))) (hp p s q I J)) ∧ (¬ ((I 65 44) ≤ Int32.ofInt 0) → (mm_s SL xs (d + 2) 255 [.ref 65, .int a0, .int a1] (hp p s q I J) (fun r_ h_ => ∃ x1 I1 J1, r_ = some (.int x1) ∧ h_ = hp p s q I1 J1 ∧ (mm_s SL xs (d + 2) 254 [.ref 65] (hp p s q I1 J1) (fun r_ h_ => ∃ x2 I2 J2, r_ = some (.int x2) ∧ h_ = hp p s q I2 J2 ∧ (mm_s SL xs (d + 2) 256 [.int x1, .int x2, .int a2] (hp p s q I2 J2) (fun r_ h_ => ∃ x3 I3 J3, r_ = some (.int x3) ∧ h_ = hp p s q I3 J3 ∧ Q (some (.int x3)) (hp p s q I3 J3)))))))))))))))))) : mm_s SL xs (d + 3) 258 [.ref 65, .int a0, .int a1, .int a2] (hp p s q I J) Q := by
  refine e_X11_chance rfl ?_
  refine hs_L (L2 := [some (.ref 65), some (.int a0), some (.int a1), some (.int a2)]) rfl ?_
  refine sp_iload_n 1 rfl rfl rfl ?_
  refine sc_S 4 rfl rfl rfl rfl (Nat.le_refl _) (Nat.le_refl _) rfl ?_
  refine cx_X11_isSmall ?_
  refine hs_S (st2 := [.int (sx_X11_isSmall a0)]) rfl ?_
  refine sp_if_eq 7 rfl rfl (fun q_ => ?_) (fun q_ => ?_)
  · have k := k.1 q_
    refine sp_iconst 48 rfl rfl ?_
    exact st_iret rfl rfl (Nat.le_refl _) (Nat.le_refl _) k
  · have k := k.2 q_
    refine sp_iload_n 8 rfl rfl rfl ?_
    refine sp_if_lt 11 rfl rfl (fun q_ => ?_) (fun q_ => ?_)
    · have k := k.1 q_
      refine sp_iconst 48 rfl rfl ?_
      exact st_iret rfl rfl (Nat.le_refl _) (Nat.le_refl _) k
    · have k := k.2 q_
      refine sp_iload_n 12 rfl rfl rfl ?_
      refine sp_iload_n 13 rfl rfl rfl ?_
      refine sp_ic_ge 16 rfl rfl (fun q_ => ?_) (fun q_ => ?_)
      · have k := k.1 q_
        refine sp_iconst 48 rfl rfl ?_
        exact st_iret rfl rfl (Nat.le_refl _) (Nat.le_refl _) k
      · have k := k.2 q_
        refine sp_iload_n 17 rfl rfl rfl ?_
        refine sc_S 20 rfl rfl rfl rfl (Nat.le_refl _) (Nat.le_refl _) rfl ?_
        refine cx_X11_isPart ?_
        refine hs_S (st2 := [.int (sx_X11_isPart a2)]) rfl ?_
        refine sp_if_eq 23 rfl rfl (fun q_ => ?_) (fun q_ => ?_)
        · have k := k.1 q_
          refine sp_iconst 48 rfl rfl ?_
          exact st_iret rfl rfl (Nat.le_refl _) (Nat.le_refl _) k
        · have k := k.2 q_
          refine sp_aload_n 24 rfl rfl rfl ?_
          refine hq_getI 27 rfl rfl rfl ?_
          refine sp_if_le 30 rfl rfl (fun q_ => ?_) (fun q_ => ?_)
          · have k := k.1 q_
            refine sp_iconst 48 rfl rfl ?_
            exact st_iret rfl rfl (Nat.le_refl _) (Nat.le_refl _) k
          · have k := k.2 q_
            refine sp_aload_n 31 rfl rfl rfl ?_
            refine sp_iload_n 32 rfl rfl rfl ?_
            refine sp_iload_n 33 rfl rfl rfl ?_
            refine sc_V 36 rfl rfl rfl rfl rfl (Nat.le_refl _) (Nat.le_refl _) rfl ?_
            refine mm_s_mono _ _ _ _ _ _ ?_ k
            rintro r_ h_ ⟨x1, I1, J1, rfl, rfl, k⟩
            refine hs_S (st2 := [.int x1]) rfl ?_
            refine sp_aload_n 37 rfl rfl rfl ?_
            refine sc_V 40 rfl rfl rfl rfl rfl (Nat.le_refl _) (Nat.le_refl _) rfl ?_
            refine mm_s_mono _ _ _ _ _ _ ?_ k
            rintro r_ h_ ⟨x2, I2, J2, rfl, rfl, k⟩
            refine hs_S (st2 := [.int x2, .int x1]) rfl ?_
            refine sp_iload_n 41 rfl rfl rfl ?_
            refine sc_S 44 rfl rfl rfl rfl (Nat.le_refl _) (Nat.le_refl _) rfl ?_
            refine mm_s_mono _ _ _ _ _ _ ?_ k
            rintro r_ h_ ⟨x3, I3, J3, rfl, rfl, k⟩
            refine hs_S (st2 := [.int x3]) rfl ?_
            refine sp_goto rfl ?_
            exact st_iret rfl rfl (Nat.le_refl _) (Nat.le_refl _) k
def w_X11_chosen_41 (SL : Nat) (xs : Nat → Int32) (d : Nat) (p s q : Nat) (Q : Option Value → mm_H → Prop) (v1 : Int32) (v2 : Int32) (v3 : Int64) (v5 : Int32) (v6 : Int32) (I : Nat → Nat → Int32) (J : Nat → Nat → Int64) : Prop := mm_w SL xs (mm_s SL xs (d + 2)) mm_am kX11_chosen 0 0 (some .int) Q 41 [some (.ref 65), some (.int v1), some (.int v2), some (.long v3), none, some (.int v5), some (.int v6), none] [] (hp p s q I J) 0 0
def w_X11_chosen_53 (SL : Nat) (xs : Nat → Int32) (d : Nat) (p s q : Nat) (Q : Option Value → mm_H → Prop) (v1 : Int32) (v2 : Int32) (v3 : Int64) (v5 : Int32) (v6 : Int32) (v7 : Int32) (I : Nat → Nat → Int32) (J : Nat → Nat → Int64) : Prop := mm_w SL xs (mm_s SL xs (d + 2)) mm_am kX11_chosen 0 0 (some .int) Q 53 [some (.ref 65), some (.int v1), some (.int v2), some (.long v3), none, some (.int v5), some (.int v6), some (.int v7)] [] (hp p s q I J) 0 0
theorem sg_X11_chosen {SL : Nat} {xs : Nat → Int32} {d : Nat} {p s q : Nat} {Q : Option Value → mm_H → Prop} {a0 : Int32} {a1 : Int32} {I : Nat → Nat → Int32} {J : Nat → Nat → Int64}  (k : (((sx_X11_isSmall a0) = Int32.ofInt 0 → Q (some (.int (Int32.ofInt (-1)))) (hp p s q I J)) ∧ (¬ ((sx_X11_isSmall a0) = Int32.ofInt 0) → ((a1 < Int32.ofInt 0 → Q (some (.int (Int32.ofInt (-1)))) (hp p s q I J)) ∧ (¬ (a1 < Int32.ofInt 0) → (((I 65 43) ≤ a1 → Q (some (.int (Int32.ofInt (-1)))) (hp p s q I J)) ∧ (¬ ((I 65 43) ≤ a1) → (((I 65 44) = Int32.ofInt 0 → Q (some (.int (Int32.ofInt (-1)))) (hp p s q I J)) ∧ (¬ ((I 65 44) = Int32.ofInt 0) → ((a1 < a0 → w_X11_chosen_41 SL xs d p s q Q a0 a1 (Int64.ofInt 0) (Int32.ofInt (-1)) (Int32.ofInt 0) I J) ∧ (¬ (a1 < a0) → Q (some (.int (Int32.ofInt (-1)))) (hp p s q I J)))))))))))) : mm_s SL xs (d + 3) 259 [.ref 65, .int a0, .int a1] (hp p s q I J) Q := by
  refine e_X11_chosen rfl ?_
  refine hs_L (L2 := [some (.ref 65), some (.int a0), some (.int a1), none, none, none, none, none]) rfl ?_
  refine sp_iload_n 1 rfl rfl rfl ?_
  refine sc_S 4 rfl rfl rfl rfl (Nat.le_refl _) (Nat.le_refl _) rfl ?_
  refine cx_X11_isSmall ?_
  refine hs_S (st2 := [.int (sx_X11_isSmall a0)]) rfl ?_
  refine sp_if_eq 7 rfl rfl (fun q_ => ?_) (fun q_ => ?_)
  · have k := k.1 q_
    refine sp_iconst 32 rfl rfl ?_
    exact st_iret rfl rfl (Nat.le_refl _) (Nat.le_refl _) k
  · have k := k.2 q_
    refine sp_iload_n 8 rfl rfl rfl ?_
    refine sp_if_lt 11 rfl rfl (fun q_ => ?_) (fun q_ => ?_)
    · have k := k.1 q_
      refine sp_iconst 32 rfl rfl ?_
      exact st_iret rfl rfl (Nat.le_refl _) (Nat.le_refl _) k
    · have k := k.2 q_
      refine sp_iload_n 12 rfl rfl rfl ?_
      refine sp_aload_n 13 rfl rfl rfl ?_
      refine hq_getI 16 rfl rfl rfl ?_
      refine sp_ic_ge 19 rfl rfl (fun q_ => ?_) (fun q_ => ?_)
      · have k := k.1 q_
        refine sp_iconst 32 rfl rfl ?_
        exact st_iret rfl rfl (Nat.le_refl _) (Nat.le_refl _) k
      · have k := k.2 q_
        refine sp_aload_n 20 rfl rfl rfl ?_
        refine hq_getI 23 rfl rfl rfl ?_
        refine sp_if_eq 26 rfl rfl (fun q_ => ?_) (fun q_ => ?_)
        · have k := k.1 q_
          refine sp_iconst 32 rfl rfl ?_
          exact st_iret rfl rfl (Nat.le_refl _) (Nat.le_refl _) k
        · have k := k.2 q_
          refine sp_iload_n 27 rfl rfl rfl ?_
          refine sp_iload_n 28 rfl rfl rfl ?_
          refine sp_ic_lt 31 rfl rfl (fun q_ => ?_) (fun q_ => ?_)
          · have k := k.1 q_
            refine sp_lconst 34 rfl rfl ?_
            refine sp_J (y := Int64.ofInt 0) rfl ?_
            refine hs_lstore_n 35 (L2 := [some (.ref 65), some (.int a0), some (.int a1), some (.long (Int64.ofInt 0)), none, none, none, none]) rfl rfl rfl rfl ?_
            refine sp_iconst 36 rfl rfl ?_
            refine hs_istore 38 (L2 := [some (.ref 65), some (.int a0), some (.int a1), some (.long (Int64.ofInt 0)), none, some (.int (Int32.ofInt (-1))), none, none]) rfl rfl rfl rfl ?_
            refine sp_iconst 39 rfl rfl ?_
            refine hs_istore 41 (L2 := [some (.ref 65), some (.int a0), some (.int a1), some (.long (Int64.ofInt 0)), none, some (.int (Int32.ofInt (-1))), some (.int (Int32.ofInt 0)), none]) rfl rfl rfl rfl ?_
            exact k
          · have k := k.2 q_
            refine sp_iconst 32 rfl rfl ?_
            exact st_iret rfl rfl (Nat.le_refl _) (Nat.le_refl _) k
theorem sg_X11_chosen_41 {SL : Nat} {xs : Nat → Int32} {d : Nat} {p s q : Nat} {Q : Option Value → mm_H → Prop} {v1 : Int32} {v2 : Int32} {v3 : Int64} {v5 : Int32} {v6 : Int32} {I : Nat → Nat → Int32} {J : Nat → Nat → Int64}  (k : ((v2 < v6 → Q (some (.int v5)) (hp p s q I J)) ∧ (¬ (v2 < v6) → w_X11_chosen_53 SL xs d p s q Q v1 v2 v3 (Int32.ofInt (-1)) v6 (Int32.ofInt 0) I J))) : w_X11_chosen_41 SL xs d p s q Q v1 v2 v3 v5 v6 I J := by
  unfold w_X11_chosen_41
  refine sp_iload 43 rfl rfl rfl ?_
  refine sp_iload_n 44 rfl rfl rfl ?_
  refine sp_ic_gt 47 rfl rfl (fun q_ => ?_) (fun q_ => ?_)
  · have k := k.1 q_
    refine sp_iload 117 rfl rfl rfl ?_
    exact st_iret rfl rfl (Nat.le_refl _) (Nat.le_refl _) k
  · have k := k.2 q_
    refine sp_iconst 48 rfl rfl ?_
    refine hs_istore 50 (L2 := [some (.ref 65), some (.int v1), some (.int v2), some (.long v3), none, some (.int (Int32.ofInt (-1))), some (.int v6), none]) rfl rfl rfl rfl ?_
    refine sp_iconst 51 rfl rfl ?_
    refine hs_istore 53 (L2 := [some (.ref 65), some (.int v1), some (.int v2), some (.long v3), none, some (.int (Int32.ofInt (-1))), some (.int v6), some (.int (Int32.ofInt 0))]) rfl rfl rfl rfl ?_
    exact k
theorem sg_X11_chosen_53 {SL : Nat} {xs : Nat → Int32} {d : Nat} {p s q : Nat} {Q : Option Value → mm_H → Prop} {v1 : Int32} {v2 : Int32} {v3 : Int64} {v5 : Int32} {v6 : Int32} {v7 : Int32} {I : Nat → Nat → Int32} {J : Nat → Nat → Int64}  (k : ((v1 ≤ v7 → w_X11_chosen_41 SL xs d p s q Q v1 v2 (v3 ||| ((Int64.ofInt 1) <<< ((v5).toInt64 &&& 63))) v5 (v6 + Int32.ofInt 1) I J) ∧ (¬ (v1 ≤ v7) → ((((v3 >>> ((v7).toInt64 &&& 63)) &&& (Int64.ofInt 1)) = (Int64.ofInt 0) → ((v5 < Int32.ofInt 0 → w_X11_chosen_53 SL xs d p s q Q v1 v2 v3 v7 v6 (v7 + Int32.ofInt 1) I J) ∧ (¬ (v5 < Int32.ofInt 0) → (mm_s SL xs (d + 2) 255 [.ref 65, .int v1, .int v7] (hp p s q I J) (fun r_ h_ => ∃ x1 I1 J1, r_ = some (.int x1) ∧ h_ = hp p s q I1 J1 ∧ (mm_s SL xs (d + 2) 255 [.ref 65, .int v1, .int v5] (hp p s q I1 J1) (fun r_ h_ => ∃ x2 I2 J2, r_ = some (.int x2) ∧ h_ = hp p s q I2 J2 ∧ ((x1 ≤ x2 → w_X11_chosen_53 SL xs d p s q Q v1 v2 v3 v5 v6 (v7 + Int32.ofInt 1) I2 J2) ∧ (¬ (x1 ≤ x2) → w_X11_chosen_53 SL xs d p s q Q v1 v2 v3 v7 v6 (v7 + Int32.ofInt 1) I2 J2))))))))) ∧ (¬ (((v3 >>> ((v7).toInt64 &&& 63)) &&& (Int64.ofInt 1)) = (Int64.ofInt 0)) → w_X11_chosen_53 SL xs d p s q Q v1 v2 v3 v5 v6 (v7 + Int32.ofInt 1) I J))))) : w_X11_chosen_53 SL xs d p s q Q v1 v2 v3 v5 v6 v7 I J := by
  unfold w_X11_chosen_53
  refine sp_iload 55 rfl rfl rfl ?_
  refine sp_iload_n 56 rfl rfl rfl ?_
  refine sp_ic_ge 59 rfl rfl (fun q_ => ?_) (fun q_ => ?_)
  · have k := k.1 q_
    refine sp_lload_n 103 rfl rfl rfl ?_
    refine sp_lconst 104 rfl rfl ?_
    refine sp_J (y := Int64.ofInt 1) rfl ?_
    refine sp_iload 106 rfl rfl rfl ?_
    refine sp_lshl 107 rfl rfl ?_
    refine sp_lor 108 rfl rfl ?_
    refine hs_lstore_n 109 (L2 := [some (.ref 65), some (.int v1), some (.int v2), some (.long (v3 ||| ((Int64.ofInt 1) <<< ((v5).toInt64 &&& 63)))), none, some (.int v5), some (.int v6), some (.int v7)]) rfl rfl rfl rfl ?_
    refine hs_iinc 112 (L2 := [some (.ref 65), some (.int v1), some (.int v2), some (.long (v3 ||| ((Int64.ofInt 1) <<< ((v5).toInt64 &&& 63)))), none, some (.int v5), some (.int (v6 + Int32.ofInt 1)), some (.int v7)]) rfl rfl rfl rfl rfl ?_
    refine sp_goto rfl ?_
    refine st_wk (L1 := [some (.ref 65), some (.int v1), some (.int v2), some (.long (v3 ||| ((Int64.ofInt 1) <<< ((v5).toInt64 &&& 63)))), none, some (.int v5), some (.int (v6 + Int32.ofInt 1)), none]) ⟨.inr rfl, .inr rfl, .inr rfl, .inr rfl, .inl rfl, .inr rfl, .inr rfl, .inl rfl, trivial⟩ ?_
    exact k
  · have k := k.2 q_
    refine sp_lload_n 60 rfl rfl rfl ?_
    refine sp_iload 62 rfl rfl rfl ?_
    refine sp_lshr 63 rfl rfl ?_
    refine sp_lconst 64 rfl rfl ?_
    refine sp_J (y := Int64.ofInt 1) rfl ?_
    refine sp_land 65 rfl rfl ?_
    refine sp_lconst 66 rfl rfl ?_
    refine sp_J (y := Int64.ofInt 0) rfl ?_
    refine sp_lcmp 67 rfl rfl ?_
    refine sp_if_ne 70 rfl rfl (fun q_ => ?_) (fun q_ => ?_)
    · have k := k.2 (fun z_ => q_ ((lg_cmp_eq _ _).mpr z_))
      refine hs_iinc 99 (L2 := [some (.ref 65), some (.int v1), some (.int v2), some (.long v3), none, some (.int v5), some (.int v6), some (.int (v7 + Int32.ofInt 1))]) rfl rfl rfl rfl rfl ?_
      refine sp_goto rfl ?_
      exact k
    · have k := k.1 ((lg_cmp_eq _ _).mp q_)
      refine sp_iload 72 rfl rfl rfl ?_
      refine sp_if_lt 75 rfl rfl (fun q_ => ?_) (fun q_ => ?_)
      · have k := k.1 q_
        refine sp_iload 94 rfl rfl rfl ?_
        refine hs_istore 96 (L2 := [some (.ref 65), some (.int v1), some (.int v2), some (.long v3), none, some (.int v7), some (.int v6), some (.int v7)]) rfl rfl rfl rfl ?_
        refine hs_iinc 99 (L2 := [some (.ref 65), some (.int v1), some (.int v2), some (.long v3), none, some (.int v7), some (.int v6), some (.int (v7 + Int32.ofInt 1))]) rfl rfl rfl rfl rfl ?_
        refine sp_goto rfl ?_
        exact k
      · have k := k.2 q_
        refine sp_aload_n 76 rfl rfl rfl ?_
        refine sp_iload_n 77 rfl rfl rfl ?_
        refine sp_iload 79 rfl rfl rfl ?_
        refine sc_V 82 rfl rfl rfl rfl rfl (Nat.le_refl _) (Nat.le_refl _) rfl ?_
        refine mm_s_mono _ _ _ _ _ _ ?_ k
        rintro r_ h_ ⟨x1, I1, J1, rfl, rfl, k⟩
        refine hs_S (st2 := [.int x1]) rfl ?_
        refine sp_aload_n 83 rfl rfl rfl ?_
        refine sp_iload_n 84 rfl rfl rfl ?_
        refine sp_iload 86 rfl rfl rfl ?_
        refine sc_V 89 rfl rfl rfl rfl rfl (Nat.le_refl _) (Nat.le_refl _) rfl ?_
        refine mm_s_mono _ _ _ _ _ _ ?_ k
        rintro r_ h_ ⟨x2, I2, J2, rfl, rfl, k⟩
        refine hs_S (st2 := [.int x2, .int x1]) rfl ?_
        refine sp_ic_le 92 rfl rfl (fun q_ => ?_) (fun q_ => ?_)
        · have k := k.1 q_
          refine hs_iinc 99 (L2 := [some (.ref 65), some (.int v1), some (.int v2), some (.long v3), none, some (.int v5), some (.int v6), some (.int (v7 + Int32.ofInt 1))]) rfl rfl rfl rfl rfl ?_
          refine sp_goto rfl ?_
          exact k
        · have k := k.2 q_
          refine sp_iload 94 rfl rfl rfl ?_
          refine hs_istore 96 (L2 := [some (.ref 65), some (.int v1), some (.int v2), some (.long v3), none, some (.int v7), some (.int v6), some (.int v7)]) rfl rfl rfl rfl ?_
          refine hs_iinc 99 (L2 := [some (.ref 65), some (.int v1), some (.int v2), some (.long v3), none, some (.int v7), some (.int v6), some (.int (v7 + Int32.ofInt 1))]) rfl rfl rfl rfl rfl ?_
          refine sp_goto rfl ?_
          exact k
def w_X11_fits_19 (SL : Nat) (xs : Nat → Int32) (d : Nat) (p s q : Nat) (Q : Option Value → mm_H → Prop) (v1 : Int32) (v2 : Int32) (v3 : Int32) (v4 : Int32) (v5 : Int32) (I : Nat → Nat → Int32) (J : Nat → Nat → Int64) : Prop := mm_w SL xs (mm_s SL xs (d + 2)) mm_am kX11_fits 0 0 (some .int) Q 19 [some (.ref 65), some (.int v1), some (.int v2), some (.int v3), some (.int v4), some (.int v5)] [] (hp p s q I J) 0 0
theorem sg_X11_fits {SL : Nat} {xs : Nat → Int32} {d : Nat} {p s q : Nat} {Q : Option Value → mm_H → Prop} {a0 : Int32} {a1 : Int32} {I : Nat → Nat → Int32} {J : Nat → Nat → Int64}  (k : ((a0 < Int32.ofInt 0 → Q (some (.int (Int32.ofInt (-1)))) (hp p s q I J)) ∧ (¬ (a0 < Int32.ofInt 0) → ((a0 ≤ (Int32.ofInt 1) → w_X11_fits_19 SL xs d p s q Q a0 a1 (Int32.ofInt 0) (Int32.ofInt (-1)) (Int32.ofInt 1) I J) ∧ (¬ (a0 ≤ (Int32.ofInt 1)) → Q (some (.int (Int32.ofInt (-1)))) (hp p s q I J)))))) : mm_s SL xs (d + 3) 267 [.ref 65, .int a0, .int a1] (hp p s q I J) Q := by
  refine e_X11_fits rfl ?_
  refine hs_L (L2 := [some (.ref 65), some (.int a0), some (.int a1), none, none, none]) rfl ?_
  refine sp_iload_n 1 rfl rfl rfl ?_
  refine sp_if_lt 4 rfl rfl (fun q_ => ?_) (fun q_ => ?_)
  · have k := k.1 q_
    refine sp_iconst 10 rfl rfl ?_
    exact st_iret rfl rfl (Nat.le_refl _) (Nat.le_refl _) k
  · have k := k.2 q_
    refine sp_iload_n 5 rfl rfl rfl ?_
    refine sp_iconst 6 rfl rfl ?_
    refine sp_ic_le 9 rfl rfl (fun q_ => ?_) (fun q_ => ?_)
    · have k := k.1 q_
      refine sp_iconst 12 rfl rfl ?_
      refine hs_istore_n 13 (L2 := [some (.ref 65), some (.int a0), some (.int a1), some (.int (Int32.ofInt 0)), none, none]) rfl rfl rfl rfl ?_
      refine sp_iconst 14 rfl rfl ?_
      refine hs_istore 16 (L2 := [some (.ref 65), some (.int a0), some (.int a1), some (.int (Int32.ofInt 0)), some (.int (Int32.ofInt (-1))), none]) rfl rfl rfl rfl ?_
      refine sp_iconst 17 rfl rfl ?_
      refine hs_istore 19 (L2 := [some (.ref 65), some (.int a0), some (.int a1), some (.int (Int32.ofInt 0)), some (.int (Int32.ofInt (-1))), some (.int (Int32.ofInt 1))]) rfl rfl rfl rfl ?_
      exact k
    · have k := k.2 q_
      refine sp_iconst 10 rfl rfl ?_
      exact st_iret rfl rfl (Nat.le_refl _) (Nat.le_refl _) k
theorem sg_X11_fits_19 {SL : Nat} {xs : Nat → Int32} {d : Nat} {p s q : Nat} {Q : Option Value → mm_H → Prop} {v1 : Int32} {v2 : Int32} {v3 : Int32} {v4 : Int32} {v5 : Int32} {I : Nat → Nat → Int32} {J : Nat → Nat → Int64}  (k : (((Int32.ofInt 200) < v5 → ((v1 = Int32.ofInt 0 → Q (some (.int v3)) (hp p s q I J)) ∧ (¬ (v1 = Int32.ofInt 0) → Q (some (.int v4)) (hp p s q I J)))) ∧ (¬ ((Int32.ofInt 200) < v5) → (mm_s SL xs (d + 2) 266 [.ref 65, .int v5, .int v2] (hp p s q I J) (fun r_ h_ => ∃ x1 I1 J1, r_ = some (.int x1) ∧ h_ = hp p s q I1 J1 ∧ ((x1 = Int32.ofInt 0 → w_X11_fits_19 SL xs d p s q Q v1 v2 v3 v4 (v5 + Int32.ofInt 1) I1 J1) ∧ (¬ (x1 = Int32.ofInt 0) → ((Int32.ofInt 0 ≤ v4 → w_X11_fits_19 SL xs d p s q Q v1 v2 (v3 + Int32.ofInt 1) v4 (v5 + Int32.ofInt 1) I1 J1) ∧ (¬ (Int32.ofInt 0 ≤ v4) → w_X11_fits_19 SL xs d p s q Q v1 v2 (v3 + Int32.ofInt 1) v5 (v5 + Int32.ofInt 1) I1 J1))))))))) : w_X11_fits_19 SL xs d p s q Q v1 v2 v3 v4 v5 I J := by
  unfold w_X11_fits_19
  refine sp_iload 21 rfl rfl rfl ?_
  refine sp_sipush 24 rfl rfl ?_
  refine sp_I (y := Int32.ofInt 200) rfl ?_
  refine sp_ic_gt 27 rfl rfl (fun q_ => ?_) (fun q_ => ?_)
  · have k := k.1 q_
    refine sp_iload_n 64 rfl rfl rfl ?_
    refine sp_if_ne 67 rfl rfl (fun q_ => ?_) (fun q_ => ?_)
    · have k := k.2 q_
      refine sp_iload 73 rfl rfl rfl ?_
      exact st_iret rfl rfl (Nat.le_refl _) (Nat.le_refl _) k
    · have k := k.1 q_
      refine sp_iload_n 68 rfl rfl rfl ?_
      refine sp_goto rfl ?_
      exact st_iret rfl rfl (Nat.le_refl _) (Nat.le_refl _) k
  · have k := k.2 q_
    refine sp_aload_n 28 rfl rfl rfl ?_
    refine sp_iload 30 rfl rfl rfl ?_
    refine sp_iload_n 31 rfl rfl rfl ?_
    refine sc_V 34 rfl rfl rfl rfl rfl (Nat.le_refl _) (Nat.le_refl _) rfl ?_
    refine mm_s_mono _ _ _ _ _ _ ?_ k
    rintro r_ h_ ⟨x1, I1, J1, rfl, rfl, k⟩
    refine hs_S (st2 := [.int x1]) rfl ?_
    refine sp_if_ne 37 rfl rfl (fun q_ => ?_) (fun q_ => ?_)
    · have k := k.2 q_
      refine hs_iinc 43 (L2 := [some (.ref 65), some (.int v1), some (.int v2), some (.int (v3 + Int32.ofInt 1)), some (.int v4), some (.int v5)]) rfl rfl rfl rfl rfl ?_
      refine sp_iload 45 rfl rfl rfl ?_
      refine sp_if_ge 48 rfl rfl (fun q_ => ?_) (fun q_ => ?_)
      · have k := k.1 q_
        refine sp_iload 55 rfl rfl rfl ?_
        refine hs_istore 57 (L2 := [some (.ref 65), some (.int v1), some (.int v2), some (.int (v3 + Int32.ofInt 1)), some (.int v4), some (.int v5)]) rfl rfl rfl rfl ?_
        refine hs_iinc 60 (L2 := [some (.ref 65), some (.int v1), some (.int v2), some (.int (v3 + Int32.ofInt 1)), some (.int v4), some (.int (v5 + Int32.ofInt 1))]) rfl rfl rfl rfl rfl ?_
        refine sp_goto rfl ?_
        exact k
      · have k := k.2 q_
        refine sp_iload 50 rfl rfl rfl ?_
        refine sp_goto rfl ?_
        refine hs_istore 57 (L2 := [some (.ref 65), some (.int v1), some (.int v2), some (.int (v3 + Int32.ofInt 1)), some (.int v5), some (.int v5)]) rfl rfl rfl rfl ?_
        refine hs_iinc 60 (L2 := [some (.ref 65), some (.int v1), some (.int v2), some (.int (v3 + Int32.ofInt 1)), some (.int v5), some (.int (v5 + Int32.ofInt 1))]) rfl rfl rfl rfl rfl ?_
        refine sp_goto rfl ?_
        exact k
    · have k := k.1 q_
      refine sp_goto rfl ?_
      refine hs_iinc 60 (L2 := [some (.ref 65), some (.int v1), some (.int v2), some (.int v3), some (.int v4), some (.int (v5 + Int32.ofInt 1))]) rfl rfl rfl rfl rfl ?_
      refine sp_goto rfl ?_
      exact k
def w_X11_ask_24 (SL : Nat) (xs : Nat → Int32) (d : Nat) (p s q : Nat) (Q : Option Value → mm_H → Prop) (v1 : Int32) (v2 : Int32) (v3 : Int32) (v4 : Int32) (v5 : Int32) (I : Nat → Nat → Int32) (J : Nat → Nat → Int64) : Prop := mm_w SL xs (mm_s SL xs (d + 2)) mm_am kX11_ask 0 0 (some .int) Q 24 [some (.ref 65), some (.int v1), some (.int v2), some (.int v3), some (.int v4), some (.int v5), none, none, none] [] (hp p s q I J) 0 0
def w_X11_ask_90 (SL : Nat) (xs : Nat → Int32) (d : Nat) (p s q : Nat) (Q : Option Value → mm_H → Prop) (v1 : Int32) (v2 : Int32) (v3 : Int32) (v4 : Int32) (v5 : Int32) (v6 : Int32) (v7 : Int32) (I : Nat → Nat → Int32) (J : Nat → Nat → Int64) : Prop := mm_w SL xs (mm_s SL xs (d + 2)) mm_am kX11_ask 0 0 (some .int) Q 90 [some (.ref 65), some (.int v1), some (.int v2), some (.int v3), some (.int v4), some (.int v5), some (.int v6), some (.int v7), none] [] (hp p s q I J) 0 0
theorem sg_X11_ask {SL : Nat} {xs : Nat → Int32} {d : Nat} {p s q : Nat} {Q : Option Value → mm_H → Prop} {a0 : Int32} {a1 : Int32} {a2 : Int32} {I : Nat → Nat → Int32} {J : Nat → Nat → Int64}  (k : (((sx_X11_isSmall a0) = Int32.ofInt 0 → Q (some (.int (Int32.ofInt (-1)))) (hp p s q I J)) ∧ (¬ ((sx_X11_isSmall a0) = Int32.ofInt 0) → ((a1 < Int32.ofInt 0 → Q (some (.int (Int32.ofInt (-1)))) (hp p s q I J)) ∧ (¬ (a1 < Int32.ofInt 0) → ((a1 ≤ (Int32.ofInt 1) → w_X11_ask_24 SL xs d p s q Q a0 a1 a2 (Int32.ofInt 0) (Int32.ofInt 1) I J) ∧ (¬ (a1 ≤ (Int32.ofInt 1)) → Q (some (.int (Int32.ofInt (-1)))) (hp p s q I J)))))))) : mm_s SL xs (d + 3) 269 [.ref 65, .int a0, .int a1, .int a2] (hp p s q I J) Q := by
  refine e_X11_ask rfl ?_
  refine hs_L (L2 := [some (.ref 65), some (.int a0), some (.int a1), some (.int a2), none, none, none, none, none]) rfl ?_
  refine sp_iload_n 1 rfl rfl rfl ?_
  refine sc_S 4 rfl rfl rfl rfl (Nat.le_refl _) (Nat.le_refl _) rfl ?_
  refine cx_X11_isSmall ?_
  refine hs_S (st2 := [.int (sx_X11_isSmall a0)]) rfl ?_
  refine sp_if_eq 7 rfl rfl (fun q_ => ?_) (fun q_ => ?_)
  · have k := k.1 q_
    refine sp_iconst 17 rfl rfl ?_
    exact st_iret rfl rfl (Nat.le_refl _) (Nat.le_refl _) k
  · have k := k.2 q_
    refine sp_iload_n 8 rfl rfl rfl ?_
    refine sp_if_lt 11 rfl rfl (fun q_ => ?_) (fun q_ => ?_)
    · have k := k.1 q_
      refine sp_iconst 17 rfl rfl ?_
      exact st_iret rfl rfl (Nat.le_refl _) (Nat.le_refl _) k
    · have k := k.2 q_
      refine sp_iload_n 12 rfl rfl rfl ?_
      refine sp_iconst 13 rfl rfl ?_
      refine sp_ic_le 16 rfl rfl (fun q_ => ?_) (fun q_ => ?_)
      · have k := k.1 q_
        refine sp_iconst 19 rfl rfl ?_
        refine hs_istore 21 (L2 := [some (.ref 65), some (.int a0), some (.int a1), some (.int a2), some (.int (Int32.ofInt 0)), none, none, none, none]) rfl rfl rfl rfl ?_
        refine sp_iconst 22 rfl rfl ?_
        refine hs_istore 24 (L2 := [some (.ref 65), some (.int a0), some (.int a1), some (.int a2), some (.int (Int32.ofInt 0)), some (.int (Int32.ofInt 1)), none, none, none]) rfl rfl rfl rfl ?_
        exact k
      · have k := k.2 q_
        refine sp_iconst 17 rfl rfl ?_
        exact st_iret rfl rfl (Nat.le_refl _) (Nat.le_refl _) k
theorem sg_X11_ask_24 {SL : Nat} {xs : Nat → Int32} {d : Nat} {p s q : Nat} {Q : Option Value → mm_H → Prop} {v1 : Int32} {v2 : Int32} {v3 : Int32} {v4 : Int32} {v5 : Int32} {I : Nat → Nat → Int32} {J : Nat → Nat → Int64}  (k : (((Int32.ofInt 200) < v5 → ((v4 = Int32.ofInt 0 → Q (some (.int (Int32.ofInt (-1)))) (hp p s q I J)) ∧ (¬ (v4 = Int32.ofInt 0) → w_X11_ask_90 SL xs d p s q Q v1 v2 v3 v4 (Int32.ofInt (-1)) (Int32.ofInt 0) (Int32.ofInt 1) I J))) ∧ (¬ ((Int32.ofInt 200) < v5) → (mm_s SL xs (d + 2) 266 [.ref 65, .int v5, .int v3] (hp p s q I J) (fun r_ h_ => ∃ x1 I1 J1, r_ = some (.int x1) ∧ h_ = hp p s q I1 J1 ∧ (vp_in v5 201 ∧ ((x1 = 0 ∨ x1 = 1) ∧ ((v4 = Int32.ofInt 0 → ((x1 = Int32.ofInt 0 → w_X11_ask_24 SL xs d p s q Q v1 v2 v3 (Int32.ofInt 0) (v5 + Int32.ofInt 1) (mm_u I1 105 ((v5).toNatClampNeg) x1) J1) ∧ (¬ (x1 = Int32.ofInt 0) → w_X11_ask_24 SL xs d p s q Q v1 v2 v3 (Int32.ofInt 1) (v5 + Int32.ofInt 1) (mm_u I1 105 ((v5).toNatClampNeg) x1) J1))) ∧ (¬ (v4 = Int32.ofInt 0) → w_X11_ask_24 SL xs d p s q Q v1 v2 v3 (Int32.ofInt 1) (v5 + Int32.ofInt 1) (mm_u I1 105 ((v5).toNatClampNeg) x1) J1))))))))) : w_X11_ask_24 SL xs d p s q Q v1 v2 v3 v4 v5 I J := by
  unfold w_X11_ask_24
  refine sp_iload 26 rfl rfl rfl ?_
  refine sp_sipush 29 rfl rfl ?_
  refine sp_I (y := Int32.ofInt 200) rfl ?_
  refine sp_ic_gt 32 rfl rfl (fun q_ => ?_) (fun q_ => ?_)
  · have k := k.1 q_
    refine sp_iload 76 rfl rfl rfl ?_
    refine sp_if_ne 79 rfl rfl (fun q_ => ?_) (fun q_ => ?_)
    · have k := k.2 q_
      refine sp_iconst 82 rfl rfl ?_
      refine hs_istore 84 (L2 := [some (.ref 65), some (.int v1), some (.int v2), some (.int v3), some (.int v4), some (.int (Int32.ofInt (-1))), none, none, none]) rfl rfl rfl rfl ?_
      refine sp_iconst 85 rfl rfl ?_
      refine hs_istore 87 (L2 := [some (.ref 65), some (.int v1), some (.int v2), some (.int v3), some (.int v4), some (.int (Int32.ofInt (-1))), some (.int (Int32.ofInt 0)), none, none]) rfl rfl rfl rfl ?_
      refine sp_iconst 88 rfl rfl ?_
      refine hs_istore 90 (L2 := [some (.ref 65), some (.int v1), some (.int v2), some (.int v3), some (.int v4), some (.int (Int32.ofInt (-1))), some (.int (Int32.ofInt 0)), some (.int (Int32.ofInt 1)), none]) rfl rfl rfl rfl ?_
      exact k
    · have k := k.1 q_
      refine sp_iconst 80 rfl rfl ?_
      exact st_iret rfl rfl (Nat.le_refl _) (Nat.le_refl _) k
  · have k := k.2 q_
    refine sp_aload_n 33 rfl rfl rfl ?_
    refine hq_getR 36 rfl rfl rfl rfl ?_
    refine sp_iload 38 rfl rfl rfl ?_
    refine sp_aload_n 39 rfl rfl rfl ?_
    refine sp_iload 41 rfl rfl rfl ?_
    refine sp_iload_n 42 rfl rfl rfl ?_
    refine sc_V 45 rfl rfl rfl rfl rfl (Nat.le_refl _) (Nat.le_refl _) rfl ?_
    refine mm_s_mono _ _ _ _ _ _ ?_ k
    rintro r_ h_ ⟨x1, I1, J1, rfl, rfl, k⟩
    refine hs_S (st2 := [.int x1, .int v5, .ref 105]) rfl ?_
    have n1_ := k.1
    have k := k.2
    refine hq_zast 46 rfl rfl n1_ k.1 rfl ?_
    have k := k.2
    refine sp_iload 48 rfl rfl rfl ?_
    refine sp_if_ne 51 rfl rfl (fun q_ => ?_) (fun q_ => ?_)
    · have k := k.2 q_
      refine sp_iconst 62 rfl rfl ?_
      refine sp_goto rfl ?_
      refine hs_istore 68 (L2 := [some (.ref 65), some (.int v1), some (.int v2), some (.int v3), some (.int (Int32.ofInt 1)), some (.int v5), none, none, none]) rfl rfl rfl rfl ?_
      refine hs_iinc 71 (L2 := [some (.ref 65), some (.int v1), some (.int v2), some (.int v3), some (.int (Int32.ofInt 1)), some (.int (v5 + Int32.ofInt 1)), none, none, none]) rfl rfl rfl rfl rfl ?_
      refine sp_goto rfl ?_
      exact k
    · have k := k.1 q_
      refine sp_aload_n 52 rfl rfl rfl ?_
      refine hq_getR 55 rfl rfl rfl rfl ?_
      refine sp_iload 57 rfl rfl rfl ?_
      refine hq_zald 58 rfl rfl n1_ rfl ?_
      refine sp_I (y := x1) (by simp [mm_u]) ?_
      refine sp_if_eq 61 rfl rfl (fun q_ => ?_) (fun q_ => ?_)
      · have k := k.1 q_
        refine sp_iconst 66 rfl rfl ?_
        refine hs_istore 68 (L2 := [some (.ref 65), some (.int v1), some (.int v2), some (.int v3), some (.int (Int32.ofInt 0)), some (.int v5), none, none, none]) rfl rfl rfl rfl ?_
        refine hs_iinc 71 (L2 := [some (.ref 65), some (.int v1), some (.int v2), some (.int v3), some (.int (Int32.ofInt 0)), some (.int (v5 + Int32.ofInt 1)), none, none, none]) rfl rfl rfl rfl rfl ?_
        refine sp_goto rfl ?_
        exact k
      · have k := k.2 q_
        refine sp_iconst 62 rfl rfl ?_
        refine sp_goto rfl ?_
        refine hs_istore 68 (L2 := [some (.ref 65), some (.int v1), some (.int v2), some (.int v3), some (.int (Int32.ofInt 1)), some (.int v5), none, none, none]) rfl rfl rfl rfl ?_
        refine hs_iinc 71 (L2 := [some (.ref 65), some (.int v1), some (.int v2), some (.int v3), some (.int (Int32.ofInt 1)), some (.int (v5 + Int32.ofInt 1)), none, none, none]) rfl rfl rfl rfl rfl ?_
        refine sp_goto rfl ?_
        exact k
theorem sg_X11_ask_90 {SL : Nat} {xs : Nat → Int32} {d : Nat} {p s q : Nat} {Q : Option Value → mm_H → Prop} {v1 : Int32} {v2 : Int32} {v3 : Int32} {v4 : Int32} {v5 : Int32} {v6 : Int32} {v7 : Int32} {I : Nat → Nat → Int32} {J : Nat → Nat → Int64}  (k : ((v1 < v7 → ((v2 = Int32.ofInt 0 → Q (some (.int v5)) (hp p s q I J)) ∧ (¬ (v2 = Int32.ofInt 0) → Q (some (.int v6)) (hp p s q I J)))) ∧ (¬ (v1 < v7) → (mm_s SL xs (d + 2) 268 [.ref 65, .int v1, .int v7] (hp p s q I J) (fun r_ h_ => ∃ x1 I1 J1, r_ = some (.int x1) ∧ h_ = hp p s q I1 J1 ∧ ((v5 < Int32.ofInt 0 → w_X11_ask_90 SL xs d p s q Q v1 v2 v3 v4 v7 x1 (v7 + Int32.ofInt 1) I1 J1) ∧ (¬ (v5 < Int32.ofInt 0) → ((x1 < v6 → w_X11_ask_90 SL xs d p s q Q v1 v2 v3 v4 v7 x1 (v7 + Int32.ofInt 1) I1 J1) ∧ (¬ (x1 < v6) → w_X11_ask_90 SL xs d p s q Q v1 v2 v3 v4 v5 v6 (v7 + Int32.ofInt 1) I1 J1))))))))) : w_X11_ask_90 SL xs d p s q Q v1 v2 v3 v4 v5 v6 v7 I J := by
  unfold w_X11_ask_90
  refine sp_iload 92 rfl rfl rfl ?_
  refine sp_iload_n 93 rfl rfl rfl ?_
  refine sp_ic_gt 96 rfl rfl (fun q_ => ?_) (fun q_ => ?_)
  · have k := k.1 q_
    refine sp_iload_n 135 rfl rfl rfl ?_
    refine sp_if_ne 138 rfl rfl (fun q_ => ?_) (fun q_ => ?_)
    · have k := k.2 q_
      refine sp_iload 145 rfl rfl rfl ?_
      exact st_iret rfl rfl (Nat.le_refl _) (Nat.le_refl _) k
    · have k := k.1 q_
      refine sp_iload 140 rfl rfl rfl ?_
      refine sp_goto rfl ?_
      exact st_iret rfl rfl (Nat.le_refl _) (Nat.le_refl _) k
  · have k := k.2 q_
    refine sp_aload_n 97 rfl rfl rfl ?_
    refine sp_iload_n 98 rfl rfl rfl ?_
    refine sp_iload 100 rfl rfl rfl ?_
    refine sc_V 103 rfl rfl rfl rfl rfl (Nat.le_refl _) (Nat.le_refl _) rfl ?_
    refine mm_s_mono _ _ _ _ _ _ ?_ k
    rintro r_ h_ ⟨x1, I1, J1, rfl, rfl, k⟩
    refine hs_S (st2 := [.int x1]) rfl ?_
    refine hs_istore 105 (L2 := [some (.ref 65), some (.int v1), some (.int v2), some (.int v3), some (.int v4), some (.int v5), some (.int v6), some (.int v7), some (.int x1)]) rfl rfl rfl rfl ?_
    refine sp_iload 107 rfl rfl rfl ?_
    refine sp_if_lt 110 rfl rfl (fun q_ => ?_) (fun q_ => ?_)
    · have k := k.1 q_
      refine sp_iload 122 rfl rfl rfl ?_
      refine hs_istore 124 (L2 := [some (.ref 65), some (.int v1), some (.int v2), some (.int v3), some (.int v4), some (.int v7), some (.int v6), some (.int v7), some (.int x1)]) rfl rfl rfl rfl ?_
      refine sp_iload 126 rfl rfl rfl ?_
      refine hs_istore 128 (L2 := [some (.ref 65), some (.int v1), some (.int v2), some (.int v3), some (.int v4), some (.int v7), some (.int x1), some (.int v7), some (.int x1)]) rfl rfl rfl rfl ?_
      refine hs_iinc 131 (L2 := [some (.ref 65), some (.int v1), some (.int v2), some (.int v3), some (.int v4), some (.int v7), some (.int x1), some (.int (v7 + Int32.ofInt 1)), some (.int x1)]) rfl rfl rfl rfl rfl ?_
      refine sp_goto rfl ?_
      refine st_wk (L1 := [some (.ref 65), some (.int v1), some (.int v2), some (.int v3), some (.int v4), some (.int v7), some (.int x1), some (.int (v7 + Int32.ofInt 1)), none]) ⟨.inr rfl, .inr rfl, .inr rfl, .inr rfl, .inr rfl, .inr rfl, .inr rfl, .inr rfl, .inl rfl, trivial⟩ ?_
      exact k
    · have k := k.2 q_
      refine sp_iload 112 rfl rfl rfl ?_
      refine sp_iload 114 rfl rfl rfl ?_
      refine sp_ic_lt 117 rfl rfl (fun q_ => ?_) (fun q_ => ?_)
      · have k := k.1 q_
        refine sp_iload 122 rfl rfl rfl ?_
        refine hs_istore 124 (L2 := [some (.ref 65), some (.int v1), some (.int v2), some (.int v3), some (.int v4), some (.int v7), some (.int v6), some (.int v7), some (.int x1)]) rfl rfl rfl rfl ?_
        refine sp_iload 126 rfl rfl rfl ?_
        refine hs_istore 128 (L2 := [some (.ref 65), some (.int v1), some (.int v2), some (.int v3), some (.int v4), some (.int v7), some (.int x1), some (.int v7), some (.int x1)]) rfl rfl rfl rfl ?_
        refine hs_iinc 131 (L2 := [some (.ref 65), some (.int v1), some (.int v2), some (.int v3), some (.int v4), some (.int v7), some (.int x1), some (.int (v7 + Int32.ofInt 1)), some (.int x1)]) rfl rfl rfl rfl rfl ?_
        refine sp_goto rfl ?_
        refine st_wk (L1 := [some (.ref 65), some (.int v1), some (.int v2), some (.int v3), some (.int v4), some (.int v7), some (.int x1), some (.int (v7 + Int32.ofInt 1)), none]) ⟨.inr rfl, .inr rfl, .inr rfl, .inr rfl, .inr rfl, .inr rfl, .inr rfl, .inr rfl, .inl rfl, trivial⟩ ?_
        exact k
      · have k := k.2 q_
        refine sp_goto rfl ?_
        refine hs_iinc 131 (L2 := [some (.ref 65), some (.int v1), some (.int v2), some (.int v3), some (.int v4), some (.int v5), some (.int v6), some (.int (v7 + Int32.ofInt 1)), some (.int x1)]) rfl rfl rfl rfl rfl ?_
        refine sp_goto rfl ?_
        refine st_wk (L1 := [some (.ref 65), some (.int v1), some (.int v2), some (.int v3), some (.int v4), some (.int v5), some (.int v6), some (.int (v7 + Int32.ofInt 1)), none]) ⟨.inr rfl, .inr rfl, .inr rfl, .inr rfl, .inr rfl, .inr rfl, .inr rfl, .inr rfl, .inl rfl, trivial⟩ ?_
        exact k
theorem sg_X11_told {SL : Nat} {xs : Nat → Int32} {d : Nat} {p s q : Nat} {Q : Option Value → mm_H → Prop} {a0 : Int64} {a1 : Int32} {a2 : Int32} {I : Nat → Nat → Int32} {J : Nat → Nat → Int64}  (k : (mm_s SL xs (d + 3) 176 [.ref 65, .long a0] (hp p s q I J) (fun r_ h_ => ∃ I1 J1, r_ = none ∧ h_ = hp p s q I1 J1 ∧ (mm_s SL xs (d + 3) 177 [.ref 65, .int a1, .int a2] (hp p s q I1 J1) (fun r_ h_ => ∃ x2 I2 J2, r_ = some (.int x2) ∧ h_ = hp p s q I2 J2 ∧ Q (some (.int x2)) (hp p s q I2 J2)))))) : mm_s SL xs (d + 4) 178 [.ref 65, .long a0, .int a1, .int a2] (hp p s q I J) Q := by
  refine e_X11_told rfl ?_
  refine hs_L (L2 := [some (.ref 65), some (.long a0), none, some (.int a1), some (.int a2)]) rfl ?_
  refine sp_aload_n 1 rfl rfl rfl ?_
  refine sp_lload_n 2 rfl rfl rfl ?_
  refine sc_V 5 rfl rfl rfl rfl rfl (Nat.le_refl _) (Nat.le_refl _) rfl ?_
  refine mm_s_mono _ _ _ _ _ _ ?_ k
  rintro r_ h_ ⟨I1, J1, rfl, rfl, k⟩
  refine hs_S (st2 := []) rfl ?_
  refine sp_aload_n 6 rfl rfl rfl ?_
  refine sp_iload_n 7 rfl rfl rfl ?_
  refine sp_iload 9 rfl rfl rfl ?_
  refine sc_V 12 rfl rfl rfl rfl rfl (Nat.le_refl _) (Nat.le_refl _) rfl ?_
  refine mm_s_mono _ _ _ _ _ _ ?_ k
  rintro r_ h_ ⟨x2, I2, J2, rfl, rfl, k⟩
  refine hs_S (st2 := [.int x2]) rfl ?_
  exact st_iret rfl rfl (Nat.le_refl _) (Nat.le_refl _) k
def w_X11_sign_52 (SL : Nat) (xs : Nat → Int32) (d : Nat) (p s q : Nat) (Q : Option Value → mm_H → Prop) (v1 : Int32) (I : Nat → Nat → Int32) (J : Nat → Nat → Int64) : Prop := mm_w SL xs (mm_s SL xs (d + 3)) mm_am kX11_sign 0 0 (some .int) Q 52 [some (.ref 65), some (.int v1)] [] (hp p s q I J) 0 0
def w_X11_sign_106 (SL : Nat) (xs : Nat → Int32) (d : Nat) (p s q : Nat) (Q : Option Value → mm_H → Prop) (v1 : Int32) (I : Nat → Nat → Int32) (J : Nat → Nat → Int64) : Prop := mm_w SL xs (mm_s SL xs (d + 3)) mm_am kX11_sign 0 0 (some .int) Q 106 [some (.ref 65), some (.int v1)] [] (hp p s q I J) 0 0
def w_X11_sign_136 (SL : Nat) (xs : Nat → Int32) (d : Nat) (p s q : Nat) (Q : Option Value → mm_H → Prop) (v1 : Int32) (I : Nat → Nat → Int32) (J : Nat → Nat → Int64) : Prop := mm_w SL xs (mm_s SL xs (d + 3)) mm_am kX11_sign 0 0 (some .int) Q 136 [some (.ref 65), some (.int v1)] [] (hp p s q I J) 0 0
theorem sg_X11_sign {SL : Nat} {xs : Nat → Int32} {d : Nat} {p s q : Nat} {Q : Option Value → mm_H → Prop}  {I : Nat → Nat → Int32} {J : Nat → Nat → Int64}  (k : (((I 65 6) = (Int32.ofInt 41) → (mm_s SL xs (d + 3) 185 [.ref 65] (hp p s q I J) (fun r_ h_ => ∃ x1 I1 J1, r_ = some (.int x1) ∧ h_ = hp p s q I1 J1 ∧ ((x1 = Int32.ofInt 0 → w_X11_sign_52 SL xs d p s q Q (sy_X11_signOf  I J) I1 J1) ∧ (¬ (x1 = Int32.ofInt 0) → (mm_s SL xs (d + 3) 184 [.ref 65, .int (Int32.ofInt 0)] (hp p s q I1 J1) (fun r_ h_ => ∃ I2 J2, r_ = none ∧ h_ = hp p s q I2 J2 ∧ (mm_s SL xs (d + 3) 172 [.ref 65] (hp p s q (mm_u (mm_u I2 65 22 ((I2 65 22) - (Int32.ofInt 1))) 65 23 ((I2 65 23) - (Int32.ofInt 1))) J2) (fun r_ h_ => ∃ I3 J3, r_ = none ∧ h_ = hp p s q I3 J3 ∧ Q (some (.int (Int32.ofInt 2))) (hp p s q I3 J3)))))))))) ∧ (¬ ((I 65 6) = (Int32.ofInt 41)) → w_X11_sign_52 SL xs d p s q Q (sy_X11_signOf  I J) I J))) : mm_s SL xs (d + 4) 189 [.ref 65] (hp p s q I J) Q := by
  refine e_X11_sign rfl ?_
  refine hs_L (L2 := [some (.ref 65), none]) rfl ?_
  refine sp_aload_n 1 rfl rfl rfl ?_
  refine sc_V 4 rfl rfl rfl rfl rfl (Nat.le_refl _) (Nat.le_refl _) rfl ?_
  refine cy_X11_signOf ?_
  refine hs_istore_n 5 (L2 := [some (.ref 65), some (.int (sy_X11_signOf  I J))]) rfl rfl rfl rfl ?_
  refine sp_aload_n 6 rfl rfl rfl ?_
  refine hq_getI 9 rfl rfl rfl ?_
  refine sp_bipush 11 rfl rfl ?_
  refine sp_I (y := Int32.ofInt 41) rfl ?_
  refine sp_ic_ne 14 rfl rfl (fun q_ => ?_) (fun q_ => ?_)
  · have k := k.2 q_
    exact k
  · have k := k.1 q_
    refine sp_aload_n 15 rfl rfl rfl ?_
    refine sc_V 18 rfl rfl rfl rfl rfl (Nat.le_refl _) (Nat.le_refl _) rfl ?_
    refine mm_s_mono _ _ _ _ _ _ ?_ k
    rintro r_ h_ ⟨x1, I1, J1, rfl, rfl, k⟩
    refine hs_S (st2 := [.int x1]) rfl ?_
    refine sp_if_eq 21 rfl rfl (fun q_ => ?_) (fun q_ => ?_)
    · have k := k.1 q_
      exact k
    · have k := k.2 q_
      refine sp_aload_n 22 rfl rfl rfl ?_
      refine sp_iconst 23 rfl rfl ?_
      refine sc_V 26 rfl rfl rfl rfl rfl (Nat.le_refl _) (Nat.le_refl _) rfl ?_
      refine mm_s_mono _ _ _ _ _ _ ?_ k
      rintro r_ h_ ⟨I2, J2, rfl, rfl, k⟩
      refine hs_S (st2 := []) rfl ?_
      refine sp_aload_n 27 rfl rfl rfl ?_
      refine sp_dup 28 rfl rfl rfl ?_
      refine hq_getI 31 rfl rfl rfl ?_
      refine sp_iconst 32 rfl rfl ?_
      refine sp_isub 33 rfl rfl ?_
      refine hq_putI 36 rfl rfl rfl ?_
      refine sp_aload_n 37 rfl rfl rfl ?_
      refine sp_dup 38 rfl rfl rfl ?_
      refine hq_getI 41 rfl rfl rfl ?_
      refine sp_I (y := (I2 65 23)) (by simp [mm_u]) ?_
      refine sp_iconst 42 rfl rfl ?_
      refine sp_isub 43 rfl rfl ?_
      refine hq_putI 46 rfl rfl rfl ?_
      refine sp_aload_n 47 rfl rfl rfl ?_
      refine sc_V 50 rfl rfl rfl rfl rfl (Nat.le_refl _) (Nat.le_refl _) rfl ?_
      refine mm_s_mono _ _ _ _ _ _ ?_ k
      rintro r_ h_ ⟨I3, J3, rfl, rfl, k⟩
      refine hs_S (st2 := []) rfl ?_
      refine sp_iconst 51 rfl rfl ?_
      exact st_iret rfl rfl (Nat.le_refl _) (Nat.le_refl _) k
theorem sg_X11_sign_52 {SL : Nat} {xs : Nat → Int32} {d : Nat} {p s q : Nat} {Q : Option Value → mm_H → Prop} {v1 : Int32} {I : Nat → Nat → Int32} {J : Nat → Nat → Int64}  (k : ((Int32.ofInt 0 ≤ v1 → (((sx_X11_rank v1) = (Int32.ofInt 23) → (mm_s SL xs (d + 3) 184 [.ref 65, .int (Int32.ofInt 26)] (hp p s q I J) (fun r_ h_ => ∃ I2 J2, r_ = none ∧ h_ = hp p s q I2 J2 ∧ (mm_s SL xs (d + 3) 180 [.ref 65] (hp p s q I2 J2) (fun r_ h_ => ∃ x3 I3 J3, r_ = some (.int x3) ∧ h_ = hp p s q I3 J3 ∧ (((sx_X11_rank x3) = (Int32.ofInt 23) → (mm_s SL xs (d + 3) 173 [.ref 65, .int (Int32.ofInt 2)] (hp p s q I3 J3) (fun r_ h_ => ∃ I4 J4, r_ = none ∧ h_ = hp p s q I4 J4 ∧ w_X11_sign_106 SL xs d p s q Q v1 I4 J4))) ∧ (¬ ((sx_X11_rank x3) = (Int32.ofInt 23)) → w_X11_sign_106 SL xs d p s q Q v1 I3 J3))))))) ∧ (¬ ((sx_X11_rank v1) = (Int32.ofInt 23)) → (mm_s SL xs (d + 3) 184 [.ref 65, .int (sx_X11_rank v1)] (hp p s q I J) (fun r_ h_ => ∃ I1 J1, r_ = none ∧ h_ = hp p s q I1 J1 ∧ w_X11_sign_106 SL xs d p s q Q v1 I1 J1))))) ∧ (¬ (Int32.ofInt 0 ≤ v1) → (mm_s SL xs (d + 3) 173 [.ref 65, .int (Int32.ofInt 2)] (hp p s q I J) (fun r_ h_ => ∃ I5 J5, r_ = none ∧ h_ = hp p s q I5 J5 ∧ Q (some (.int (Int32.ofInt 2))) (hp p s q I5 J5)))))) : w_X11_sign_52 SL xs d p s q Q v1 I J := by
  unfold w_X11_sign_52
  refine sp_iload_n 53 rfl rfl rfl ?_
  refine sp_if_ge 56 rfl rfl (fun q_ => ?_) (fun q_ => ?_)
  · have k := k.1 q_
    refine sp_iload_n 64 rfl rfl rfl ?_
    refine sc_S 67 rfl rfl rfl rfl (Nat.le_refl _) (Nat.le_refl _) rfl ?_
    refine cx_X11_rank ?_
    refine hs_S (st2 := [.int (sx_X11_rank v1)]) rfl ?_
    refine sp_bipush 69 rfl rfl ?_
    refine sp_I (y := Int32.ofInt 23) rfl ?_
    refine sp_ic_ne 72 rfl rfl (fun q_ => ?_) (fun q_ => ?_)
    · have k := k.2 q_
      refine sp_aload_n 99 rfl rfl rfl ?_
      refine sp_iload_n 100 rfl rfl rfl ?_
      refine sc_S 103 rfl rfl rfl rfl (Nat.le_refl _) (Nat.le_refl _) rfl ?_
      refine cx_X11_rank ?_
      refine hs_S (st2 := [.int (sx_X11_rank v1), .ref 65]) rfl ?_
      refine sc_V 106 rfl rfl rfl rfl rfl (Nat.le_refl _) (Nat.le_refl _) rfl ?_
      refine mm_s_mono _ _ _ _ _ _ ?_ k
      rintro r_ h_ ⟨I1, J1, rfl, rfl, k⟩
      refine hs_S (st2 := []) rfl ?_
      exact k
    · have k := k.1 q_
      refine sp_aload_n 73 rfl rfl rfl ?_
      refine sp_bipush 75 rfl rfl ?_
      refine sp_I (y := Int32.ofInt 26) rfl ?_
      refine sc_V 78 rfl rfl rfl rfl rfl (Nat.le_refl _) (Nat.le_refl _) rfl ?_
      refine mm_s_mono _ _ _ _ _ _ ?_ k
      rintro r_ h_ ⟨I2, J2, rfl, rfl, k⟩
      refine hs_S (st2 := []) rfl ?_
      refine sp_aload_n 79 rfl rfl rfl ?_
      refine sc_V 82 rfl rfl rfl rfl rfl (Nat.le_refl _) (Nat.le_refl _) rfl ?_
      refine mm_s_mono _ _ _ _ _ _ ?_ k
      rintro r_ h_ ⟨x3, I3, J3, rfl, rfl, k⟩
      refine hs_S (st2 := [.int x3]) rfl ?_
      refine sc_S 85 rfl rfl rfl rfl (Nat.le_refl _) (Nat.le_refl _) rfl ?_
      refine cx_X11_rank ?_
      refine hs_S (st2 := [.int (sx_X11_rank x3)]) rfl ?_
      refine sp_bipush 87 rfl rfl ?_
      refine sp_I (y := Int32.ofInt 23) rfl ?_
      refine sp_ic_ne 90 rfl rfl (fun q_ => ?_) (fun q_ => ?_)
      · have k := k.2 q_
        exact k
      · have k := k.1 q_
        refine sp_aload_n 91 rfl rfl rfl ?_
        refine sp_iconst 92 rfl rfl ?_
        refine sc_V 95 rfl rfl rfl rfl rfl (Nat.le_refl _) (Nat.le_refl _) rfl ?_
        refine mm_s_mono _ _ _ _ _ _ ?_ k
        rintro r_ h_ ⟨I4, J4, rfl, rfl, k⟩
        refine hs_S (st2 := []) rfl ?_
        refine sp_goto rfl ?_
        exact k
  · have k := k.2 q_
    refine sp_aload_n 57 rfl rfl rfl ?_
    refine sp_iconst 58 rfl rfl ?_
    refine sc_V 61 rfl rfl rfl rfl rfl (Nat.le_refl _) (Nat.le_refl _) rfl ?_
    refine mm_s_mono _ _ _ _ _ _ ?_ k
    rintro r_ h_ ⟨I5, J5, rfl, rfl, k⟩
    refine hs_S (st2 := []) rfl ?_
    refine sp_iconst 62 rfl rfl ?_
    exact st_iret rfl rfl (Nat.le_refl _) (Nat.le_refl _) k
theorem sg_X11_sign_106 {SL : Nat} {xs : Nat → Int32} {d : Nat} {p s q : Nat} {Q : Option Value → mm_H → Prop} {v1 : Int32} {I : Nat → Nat → Int32} {J : Nat → Nat → Int64}  (k : (((I 65 2) ≤ Int32.ofInt 0 → (mm_s SL xs (d + 3) 181 [.ref 65, .int v1] (hp p s q I J) (fun r_ h_ => ∃ I1 J1, r_ = none ∧ h_ = hp p s q I1 J1 ∧ (mm_s SL xs (d + 3) 172 [.ref 65] (hp p s q I1 J1) (fun r_ h_ => ∃ I2 J2, r_ = none ∧ h_ = hp p s q I2 J2 ∧ ((v1 = (Int32.ofInt 21) → w_X11_sign_136 SL xs d p s q Q v1 I2 J2) ∧ (¬ (v1 = (Int32.ofInt 21)) → ((v1 = (Int32.ofInt 20) → w_X11_sign_136 SL xs d p s q Q v1 I2 J2) ∧ (¬ (v1 = (Int32.ofInt 20)) → Q (some (.int (Int32.ofInt 1))) (hp p s q I2 J2)))))))))) ∧ (¬ ((I 65 2) ≤ Int32.ofInt 0) → Q (some (.int (Int32.ofInt 2))) (hp p s q I J)))) : w_X11_sign_106 SL xs d p s q Q v1 I J := by
  unfold w_X11_sign_106
  refine sp_aload_n 107 rfl rfl rfl ?_
  refine hq_getI 110 rfl rfl rfl ?_
  refine sp_if_le 113 rfl rfl (fun q_ => ?_) (fun q_ => ?_)
  · have k := k.1 q_
    refine sp_aload_n 116 rfl rfl rfl ?_
    refine sp_iload_n 117 rfl rfl rfl ?_
    refine sc_V 120 rfl rfl rfl rfl rfl (Nat.le_refl _) (Nat.le_refl _) rfl ?_
    refine mm_s_mono _ _ _ _ _ _ ?_ k
    rintro r_ h_ ⟨I1, J1, rfl, rfl, k⟩
    refine hs_S (st2 := []) rfl ?_
    refine sp_aload_n 121 rfl rfl rfl ?_
    refine sc_V 124 rfl rfl rfl rfl rfl (Nat.le_refl _) (Nat.le_refl _) rfl ?_
    refine mm_s_mono _ _ _ _ _ _ ?_ k
    rintro r_ h_ ⟨I2, J2, rfl, rfl, k⟩
    refine hs_S (st2 := []) rfl ?_
    refine sp_iload_n 125 rfl rfl rfl ?_
    refine sp_bipush 127 rfl rfl ?_
    refine sp_I (y := Int32.ofInt 21) rfl ?_
    refine sp_ic_eq 130 rfl rfl (fun q_ => ?_) (fun q_ => ?_)
    · have k := k.1 q_
      exact k
    · have k := k.2 q_
      refine sp_iload_n 131 rfl rfl rfl ?_
      refine sp_bipush 133 rfl rfl ?_
      refine sp_I (y := Int32.ofInt 20) rfl ?_
      refine sp_ic_ne 136 rfl rfl (fun q_ => ?_) (fun q_ => ?_)
      · have k := k.2 q_
        refine sp_iconst 141 rfl rfl ?_
        exact st_iret rfl rfl (Nat.le_refl _) (Nat.le_refl _) k
      · have k := k.1 q_
        exact k
  · have k := k.2 q_
    refine sp_iconst 114 rfl rfl ?_
    exact st_iret rfl rfl (Nat.le_refl _) (Nat.le_refl _) k
theorem sg_X11_sign_136 {SL : Nat} {xs : Nat → Int32} {d : Nat} {p s q : Nat} {Q : Option Value → mm_H → Prop} {v1 : Int32} {I : Nat → Nat → Int32} {J : Nat → Nat → Int64}  (k : Q (some (.int (Int32.ofInt 0))) (hp p s q I J)) : w_X11_sign_136 SL xs d p s q Q v1 I J := by
  unfold w_X11_sign_136
  refine sp_iconst 137 rfl rfl ?_
  refine sp_goto rfl ?_
  exact st_iret rfl rfl (Nat.le_refl _) (Nat.le_refl _) k
theorem sg_X11_readNumber {SL : Nat} {xs : Nat → Int32} {d : Nat} {p s q : Nat} {Q : Option Value → mm_H → Prop} {a0 : Int32} {a1 : Int32} {a2 : Int32} {I : Nat → Nat → Int32} {J : Nat → Nat → Int64}  (k : (mm_s SL xs (d + 3) 172 [.ref 65] (hp p s q I J) (fun r_ h_ => ∃ I1 J1, r_ = none ∧ h_ = hp p s q I1 J1 ∧ (vp_in a0 8 ∧ (mm_s SL xs (d + 3) 177 [.ref 65, .int a1, .int a2] (hp p s q (mm_u I1 85 ((a0).toNatClampNeg) (Int32.ofInt 1)) J1) (fun r_ h_ => ∃ x2 I2 J2, r_ = some (.int x2) ∧ h_ = hp p s q I2 J2 ∧ (vp_in a0 6 ∧ Q none (hp p s q (mm_u I2 74 ((a0).toNatClampNeg) x2) J2)))))))) : mm_s SL xs (d + 4) 191 [.ref 65, .int a0, .int a1, .int a2] (hp p s q I J) Q := by
  refine e_X11_readNumber rfl ?_
  refine hs_L (L2 := [some (.ref 65), some (.int a0), some (.int a1), some (.int a2)]) rfl ?_
  refine sp_aload_n 1 rfl rfl rfl ?_
  refine sc_V 4 rfl rfl rfl rfl rfl (Nat.le_refl _) (Nat.le_refl _) rfl ?_
  refine mm_s_mono _ _ _ _ _ _ ?_ k
  rintro r_ h_ ⟨I1, J1, rfl, rfl, k⟩
  refine hs_S (st2 := []) rfl ?_
  refine sp_aload_n 5 rfl rfl rfl ?_
  refine hq_getR 8 rfl rfl rfl rfl ?_
  refine sp_iload_n 9 rfl rfl rfl ?_
  refine sp_iconst 10 rfl rfl ?_
  have n1_ := k.1
  have k := k.2
  refine hq_zast 11 rfl rfl n1_ (by decide) rfl ?_
  refine sp_aload_n 12 rfl rfl rfl ?_
  refine hq_getR 15 rfl rfl rfl rfl ?_
  refine sp_iload_n 16 rfl rfl rfl ?_
  refine sp_aload_n 17 rfl rfl rfl ?_
  refine sp_iload_n 18 rfl rfl rfl ?_
  refine sp_iload_n 19 rfl rfl rfl ?_
  refine sc_V 22 rfl rfl rfl rfl rfl (Nat.le_refl _) (Nat.le_refl _) rfl ?_
  refine mm_s_mono _ _ _ _ _ _ ?_ k
  rintro r_ h_ ⟨x2, I2, J2, rfl, rfl, k⟩
  refine hs_S (st2 := [.int x2, .int a0, .ref 74]) rfl ?_
  have n2_ := k.1
  have k := k.2
  refine hq_iast 23 rfl rfl n2_ rfl ?_
  exact st_vret rfl rfl (Nat.le_refl _) (Nat.le_refl _) k
def w_X11_goOn_0 (SL : Nat) (xs : Nat → Int32) (d : Nat) (p s q : Nat) (Q : Option Value → mm_H → Prop)  (I : Nat → Nat → Int32) (J : Nat → Nat → Int64) : Prop := mm_w SL xs (mm_s SL xs (d + 3)) mm_am kX11_goOn 0 0 none Q 0 [some (.ref 65)] [] (hp p s q I J) 0 0
theorem sg_X11_goOn_0 {SL : Nat} {xs : Nat → Int32} {d : Nat} {p s q : Nat} {Q : Option Value → mm_H → Prop}  {I : Nat → Nat → Int32} {J : Nat → Nat → Int64}  (k : (((sy_X11_isEnded  I J) = Int32.ofInt 0 → (mm_s SL xs (d + 3) 209 [.ref 65] (hp p s q I J) (fun r_ h_ => ∃ I1 J1, r_ = none ∧ h_ = hp p s q I1 J1 ∧ w_X11_goOn_0 SL xs d p s q Q  I1 J1))) ∧ (¬ ((sy_X11_isEnded  I J) = Int32.ofInt 0) → Q none (hp p s q I J)))) : w_X11_goOn_0 SL xs d p s q Q  I J := by
  unfold w_X11_goOn_0
  refine sp_aload_n 1 rfl rfl rfl ?_
  refine sc_V 4 rfl rfl rfl rfl rfl (Nat.le_refl _) (Nat.le_refl _) rfl ?_
  refine cy_X11_isEnded ?_
  refine sp_if_ne 7 rfl rfl (fun q_ => ?_) (fun q_ => ?_)
  · have k := k.2 q_
    exact st_vret rfl rfl (Nat.le_refl _) (Nat.le_refl _) k
  · have k := k.1 q_
    refine sp_aload_n 8 rfl rfl rfl ?_
    refine sc_V 11 rfl rfl rfl rfl rfl (Nat.le_refl _) (Nat.le_refl _) rfl ?_
    refine mm_s_mono _ _ _ _ _ _ ?_ k
    rintro r_ h_ ⟨I1, J1, rfl, rfl, k⟩
    refine hs_S (st2 := []) rfl ?_
    refine sp_goto rfl ?_
    exact k
def w_X11_go_15 (SL : Nat) (xs : Nat → Int32) (d : Nat) (p s q : Nat) (Q : Option Value → mm_H → Prop) (v1 : Int32) (v2 : Int32) (I : Nat → Nat → Int32) (J : Nat → Nat → Int64) : Prop := mm_w SL xs (mm_s SL xs (d + 3)) mm_am kX11_go 0 0 (some .int) Q 15 [some (.ref 65), some (.int v1), some (.int v2)] [] (hp p s q I J) 0 0
theorem sg_X11_go {SL : Nat} {xs : Nat → Int32} {d : Nat} {p s q : Nat} {Q : Option Value → mm_H → Prop} {a0 : Int32} {I : Nat → Nat → Int32} {J : Nat → Nat → Int64}  (k : ((a0 < Int32.ofInt 0 → Q (some (.int (Int32.ofInt (-1)))) (hp p s q I J)) ∧ (¬ (a0 < Int32.ofInt 0) → ((a0 ≤ (Int32.ofInt 1000) → w_X11_go_15 SL xs d p s q Q a0 (Int32.ofInt 0) I J) ∧ (¬ (a0 ≤ (Int32.ofInt 1000)) → Q (some (.int (Int32.ofInt (-1)))) (hp p s q I J)))))) : mm_s SL xs (d + 4) 213 [.ref 65, .int a0] (hp p s q I J) Q := by
  refine e_X11_go rfl ?_
  refine hs_L (L2 := [some (.ref 65), some (.int a0), none]) rfl ?_
  refine sp_iload_n 1 rfl rfl rfl ?_
  refine sp_if_lt 4 rfl rfl (fun q_ => ?_) (fun q_ => ?_)
  · have k := k.1 q_
    refine sp_iconst 12 rfl rfl ?_
    exact st_iret rfl rfl (Nat.le_refl _) (Nat.le_refl _) k
  · have k := k.2 q_
    refine sp_iload_n 5 rfl rfl rfl ?_
    refine sp_sipush 8 rfl rfl ?_
    refine sp_I (y := Int32.ofInt 1000) rfl ?_
    refine sp_ic_le 11 rfl rfl (fun q_ => ?_) (fun q_ => ?_)
    · have k := k.1 q_
      refine sp_iconst 14 rfl rfl ?_
      refine hs_istore_n 15 (L2 := [some (.ref 65), some (.int a0), some (.int (Int32.ofInt 0))]) rfl rfl rfl rfl ?_
      exact k
    · have k := k.2 q_
      refine sp_iconst 12 rfl rfl ?_
      exact st_iret rfl rfl (Nat.le_refl _) (Nat.le_refl _) k
theorem sg_X11_go_15 {SL : Nat} {xs : Nat → Int32} {d : Nat} {p s q : Nat} {Q : Option Value → mm_H → Prop} {v1 : Int32} {v2 : Int32} {I : Nat → Nat → Int32} {J : Nat → Nat → Int64}  (k : ((v1 ≤ v2 → Q (some (.int v2)) (hp p s q I J)) ∧ (¬ (v1 ≤ v2) → (((sy_X11_isEnded  I J) = Int32.ofInt 0 → (mm_s SL xs (d + 3) 209 [.ref 65] (hp p s q I J) (fun r_ h_ => ∃ I1 J1, r_ = none ∧ h_ = hp p s q I1 J1 ∧ w_X11_go_15 SL xs d p s q Q v1 (v2 + Int32.ofInt 1) I1 J1))) ∧ (¬ ((sy_X11_isEnded  I J) = Int32.ofInt 0) → Q (some (.int v2)) (hp p s q I J)))))) : w_X11_go_15 SL xs d p s q Q v1 v2 I J := by
  unfold w_X11_go_15
  refine sp_iload_n 16 rfl rfl rfl ?_
  refine sp_iload_n 17 rfl rfl rfl ?_
  refine sp_ic_ge 20 rfl rfl (fun q_ => ?_) (fun q_ => ?_)
  · have k := k.1 q_
    refine sp_iload_n 38 rfl rfl rfl ?_
    exact st_iret rfl rfl (Nat.le_refl _) (Nat.le_refl _) k
  · have k := k.2 q_
    refine sp_aload_n 21 rfl rfl rfl ?_
    refine sc_V 24 rfl rfl rfl rfl rfl (Nat.le_refl _) (Nat.le_refl _) rfl ?_
    refine cy_X11_isEnded ?_
    refine sp_if_ne 27 rfl rfl (fun q_ => ?_) (fun q_ => ?_)
    · have k := k.2 q_
      refine sp_iload_n 38 rfl rfl rfl ?_
      exact st_iret rfl rfl (Nat.le_refl _) (Nat.le_refl _) k
    · have k := k.1 q_
      refine sp_aload_n 28 rfl rfl rfl ?_
      refine sc_V 31 rfl rfl rfl rfl rfl (Nat.le_refl _) (Nat.le_refl _) rfl ?_
      refine mm_s_mono _ _ _ _ _ _ ?_ k
      rintro r_ h_ ⟨I1, J1, rfl, rfl, k⟩
      refine hs_S (st2 := []) rfl ?_
      refine hs_iinc 34 (L2 := [some (.ref 65), some (.int v1), some (.int (v2 + Int32.ofInt 1))]) rfl rfl rfl rfl rfl ?_
      refine sp_goto rfl ?_
      exact k
def w_X11_goSome_2 (SL : Nat) (xs : Nat → Int32) (d : Nat) (p s q : Nat) (Q : Option Value → mm_H → Prop) (v1 : Int32) (v2 : Int32) (I : Nat → Nat → Int32) (J : Nat → Nat → Int64) : Prop := mm_w SL xs (mm_s SL xs (d + 3)) mm_am kX11_goSome 0 0 none Q 2 [some (.ref 65), some (.int v1), some (.int v2)] [] (hp p s q I J) 0 0
theorem sg_X11_goSome {SL : Nat} {xs : Nat → Int32} {d : Nat} {p s q : Nat} {Q : Option Value → mm_H → Prop} {a0 : Int32} {I : Nat → Nat → Int32} {J : Nat → Nat → Int64}  (k : w_X11_goSome_2 SL xs d p s q Q a0 (Int32.ofInt 0) I J) : mm_s SL xs (d + 4) 219 [.ref 65, .int a0] (hp p s q I J) Q := by
  refine e_X11_goSome rfl ?_
  refine hs_L (L2 := [some (.ref 65), some (.int a0), none]) rfl ?_
  refine sp_iconst 1 rfl rfl ?_
  refine hs_istore_n 2 (L2 := [some (.ref 65), some (.int a0), some (.int (Int32.ofInt 0))]) rfl rfl rfl rfl ?_
  exact k
theorem sg_X11_goSome_2 {SL : Nat} {xs : Nat → Int32} {d : Nat} {p s q : Nat} {Q : Option Value → mm_H → Prop} {v1 : Int32} {v2 : Int32} {I : Nat → Nat → Int32} {J : Nat → Nat → Int64}  (k : ((v1 ≤ v2 → Q none (hp p s q I J)) ∧ (¬ (v1 ≤ v2) → (((sy_X11_isEnded  I J) = Int32.ofInt 0 → (mm_s SL xs (d + 3) 209 [.ref 65] (hp p s q I J) (fun r_ h_ => ∃ I1 J1, r_ = none ∧ h_ = hp p s q I1 J1 ∧ w_X11_goSome_2 SL xs d p s q Q v1 (v2 + Int32.ofInt 1) I1 J1))) ∧ (¬ ((sy_X11_isEnded  I J) = Int32.ofInt 0) → Q none (hp p s q I J)))))) : w_X11_goSome_2 SL xs d p s q Q v1 v2 I J := by
  unfold w_X11_goSome_2
  refine sp_iload_n 3 rfl rfl rfl ?_
  refine sp_iload_n 4 rfl rfl rfl ?_
  refine sp_ic_ge 7 rfl rfl (fun q_ => ?_) (fun q_ => ?_)
  · have k := k.1 q_
    exact st_vret rfl rfl (Nat.le_refl _) (Nat.le_refl _) k
  · have k := k.2 q_
    refine sp_aload_n 8 rfl rfl rfl ?_
    refine sc_V 11 rfl rfl rfl rfl rfl (Nat.le_refl _) (Nat.le_refl _) rfl ?_
    refine cy_X11_isEnded ?_
    refine sp_if_ne 14 rfl rfl (fun q_ => ?_) (fun q_ => ?_)
    · have k := k.2 q_
      exact st_vret rfl rfl (Nat.le_refl _) (Nat.le_refl _) k
    · have k := k.1 q_
      refine sp_aload_n 15 rfl rfl rfl ?_
      refine sc_V 18 rfl rfl rfl rfl rfl (Nat.le_refl _) (Nat.le_refl _) rfl ?_
      refine mm_s_mono _ _ _ _ _ _ ?_ k
      rintro r_ h_ ⟨I1, J1, rfl, rfl, k⟩
      refine hs_S (st2 := []) rfl ?_
      refine hs_iinc 21 (L2 := [some (.ref 65), some (.int v1), some (.int (v2 + Int32.ofInt 1))]) rfl rfl rfl rfl rfl ?_
      refine sp_goto rfl ?_
      exact k
def w_X11_meet_15 (SL : Nat) (xs : Nat → Int32) (d : Nat) (p s q : Nat) (Q : Option Value → mm_H → Prop) (v1 : Int32) (I : Nat → Nat → Int32) (J : Nat → Nat → Int64) : Prop := mm_w SL xs (mm_s SL xs (d + 3)) mm_am kX11_meet 0 0 (some .int) Q 15 [some (.ref 65), some (.int v1)] [] (hp p s q I J) 0 0
theorem sg_X11_meet {SL : Nat} {xs : Nat → Int32} {d : Nat} {p s q : Nat} {Q : Option Value → mm_H → Prop}  {I : Nat → Nat → Int32} {J : Nat → Nat → Int64}  (k : ((Int32.ofInt 0 ≤ (I 65 52) → (mm_s SL xs (d + 3) 203 [.ref 65] (hp p s q I J) (fun r_ h_ => ∃ I1 J1, r_ = none ∧ h_ = hp p s q I1 J1 ∧ w_X11_meet_15 SL xs d p s q Q (Int32.ofInt (-1)) I1 J1))) ∧ (¬ (Int32.ofInt 0 ≤ (I 65 52)) → Q (some (.int (Int32.ofInt (-1)))) (hp p s q I J)))) : mm_s SL xs (d + 4) 226 [.ref 65] (hp p s q I J) Q := by
  refine e_X11_meet rfl ?_
  refine hs_L (L2 := [some (.ref 65), none]) rfl ?_
  refine sp_aload_n 1 rfl rfl rfl ?_
  refine hq_getI 4 rfl rfl rfl ?_
  refine sp_if_ge 7 rfl rfl (fun q_ => ?_) (fun q_ => ?_)
  · have k := k.1 q_
    refine sp_aload_n 10 rfl rfl rfl ?_
    refine sc_V 13 rfl rfl rfl rfl rfl (Nat.le_refl _) (Nat.le_refl _) rfl ?_
    refine mm_s_mono _ _ _ _ _ _ ?_ k
    rintro r_ h_ ⟨I1, J1, rfl, rfl, k⟩
    refine hs_S (st2 := []) rfl ?_
    refine sp_iconst 14 rfl rfl ?_
    refine hs_istore_n 15 (L2 := [some (.ref 65), some (.int (Int32.ofInt (-1)))]) rfl rfl rfl rfl ?_
    exact k
  · have k := k.2 q_
    refine sp_iconst 8 rfl rfl ?_
    exact st_iret rfl rfl (Nat.le_refl _) (Nat.le_refl _) k
theorem sg_X11_meet_15 {SL : Nat} {xs : Nat → Int32} {d : Nat} {p s q : Nat} {Q : Option Value → mm_H → Prop} {v1 : Int32} {I : Nat → Nat → Int32} {J : Nat → Nat → Int64}  (k : (((sy_X11_isEnded  I J) = Int32.ofInt 0 → ((Int32.ofInt 0 ≤ v1 → (mm_s SL xs (d + 3) 204 [.ref 65] (hp p s q I J) (fun r_ h_ => ∃ I2 J2, r_ = none ∧ h_ = hp p s q I2 J2 ∧ Q (some (.int v1)) (hp p s q I2 J2)))) ∧ (¬ (Int32.ofInt 0 ≤ v1) → (mm_s SL xs (d + 3) 209 [.ref 65] (hp p s q I J) (fun r_ h_ => ∃ I3 J3, r_ = none ∧ h_ = hp p s q I3 J3 ∧ (mm_s SL xs (d + 3) 225 [.ref 65] (hp p s q I3 J3) (fun r_ h_ => ∃ x4 I4 J4, r_ = some (.int x4) ∧ h_ = hp p s q I4 J4 ∧ ((x4 = Int32.ofInt 0 → w_X11_meet_15 SL xs d p s q Q (Int32.ofInt (-1)) I4 J4) ∧ (¬ (x4 = Int32.ofInt 0) → w_X11_meet_15 SL xs d p s q Q (I4 65 60) I4 J4))))))))) ∧ (¬ ((sy_X11_isEnded  I J) = Int32.ofInt 0) → (mm_s SL xs (d + 3) 204 [.ref 65] (hp p s q I J) (fun r_ h_ => ∃ I1 J1, r_ = none ∧ h_ = hp p s q I1 J1 ∧ Q (some (.int v1)) (hp p s q I1 J1)))))) : w_X11_meet_15 SL xs d p s q Q v1 I J := by
  unfold w_X11_meet_15
  refine sp_aload_n 16 rfl rfl rfl ?_
  refine sc_V 19 rfl rfl rfl rfl rfl (Nat.le_refl _) (Nat.le_refl _) rfl ?_
  refine cy_X11_isEnded ?_
  refine sp_if_ne 22 rfl rfl (fun q_ => ?_) (fun q_ => ?_)
  · have k := k.2 q_
    refine sp_aload_n 50 rfl rfl rfl ?_
    refine sc_V 53 rfl rfl rfl rfl rfl (Nat.le_refl _) (Nat.le_refl _) rfl ?_
    refine mm_s_mono _ _ _ _ _ _ ?_ k
    rintro r_ h_ ⟨I1, J1, rfl, rfl, k⟩
    refine hs_S (st2 := []) rfl ?_
    refine sp_iload_n 54 rfl rfl rfl ?_
    exact st_iret rfl rfl (Nat.le_refl _) (Nat.le_refl _) k
  · have k := k.1 q_
    refine sp_iload_n 23 rfl rfl rfl ?_
    refine sp_if_ge 26 rfl rfl (fun q_ => ?_) (fun q_ => ?_)
    · have k := k.1 q_
      refine sp_aload_n 50 rfl rfl rfl ?_
      refine sc_V 53 rfl rfl rfl rfl rfl (Nat.le_refl _) (Nat.le_refl _) rfl ?_
      refine mm_s_mono _ _ _ _ _ _ ?_ k
      rintro r_ h_ ⟨I2, J2, rfl, rfl, k⟩
      refine hs_S (st2 := []) rfl ?_
      refine sp_iload_n 54 rfl rfl rfl ?_
      exact st_iret rfl rfl (Nat.le_refl _) (Nat.le_refl _) k
    · have k := k.2 q_
      refine sp_aload_n 27 rfl rfl rfl ?_
      refine sc_V 30 rfl rfl rfl rfl rfl (Nat.le_refl _) (Nat.le_refl _) rfl ?_
      refine mm_s_mono _ _ _ _ _ _ ?_ k
      rintro r_ h_ ⟨I3, J3, rfl, rfl, k⟩
      refine hs_S (st2 := []) rfl ?_
      refine sp_aload_n 31 rfl rfl rfl ?_
      refine sc_V 34 rfl rfl rfl rfl rfl (Nat.le_refl _) (Nat.le_refl _) rfl ?_
      refine mm_s_mono _ _ _ _ _ _ ?_ k
      rintro r_ h_ ⟨x4, I4, J4, rfl, rfl, k⟩
      refine hs_S (st2 := [.int x4]) rfl ?_
      refine sp_if_eq 37 rfl rfl (fun q_ => ?_) (fun q_ => ?_)
      · have k := k.1 q_
        refine sp_iconst 45 rfl rfl ?_
        refine hs_istore_n 46 (L2 := [some (.ref 65), some (.int (Int32.ofInt (-1)))]) rfl rfl rfl rfl ?_
        refine sp_goto rfl ?_
        exact k
      · have k := k.2 q_
        refine sp_aload_n 38 rfl rfl rfl ?_
        refine hq_getI 41 rfl rfl rfl ?_
        refine sp_goto rfl ?_
        refine hs_istore_n 46 (L2 := [some (.ref 65), some (.int (I4 65 60))]) rfl rfl rfl rfl ?_
        refine sp_goto rfl ?_
        exact k
theorem sg_X11_choice {SL : Nat} {xs : Nat → Int32} {d : Nat} {p s q : Nat} {Q : Option Value → mm_H → Prop} {a0 : Int32} {a1 : Int32} {I : Nat → Nat → Int32} {J : Nat → Nat → Int64}  (k : (mm_s SL xs (d + 3) 259 [.ref 65, .int a0, .int a1] (hp p s q I J) (fun r_ h_ => ∃ x1 I1 J1, r_ = some (.int x1) ∧ h_ = hp p s q I1 J1 ∧ Q (some (.int x1)) (hp p s q I1 J1)))) : mm_s SL xs (d + 4) 260 [.ref 65, .int a0, .int a1] (hp p s q I J) Q := by
  refine e_X11_choice rfl ?_
  refine hs_L (L2 := [some (.ref 65), some (.int a0), some (.int a1)]) rfl ?_
  refine sp_aload_n 1 rfl rfl rfl ?_
  refine sp_iload_n 2 rfl rfl rfl ?_
  refine sp_iload_n 3 rfl rfl rfl ?_
  refine sc_V 6 rfl rfl rfl rfl rfl (Nat.le_refl _) (Nat.le_refl _) rfl ?_
  refine mm_s_mono _ _ _ _ _ _ ?_ k
  rintro r_ h_ ⟨x1, I1, J1, rfl, rfl, k⟩
  refine hs_S (st2 := [.int x1]) rfl ?_
  exact st_iret rfl rfl (Nat.le_refl _) (Nat.le_refl _) k
theorem sg_X11_expected {SL : Nat} {xs : Nat → Int32} {d : Nat} {p s q : Nat} {Q : Option Value → mm_H → Prop} {a0 : Int32} {a1 : Int32} {a2 : Int32} {I : Nat → Nat → Int32} {J : Nat → Nat → Int64}  (k : (((sx_X11_isPart a2) = Int32.ofInt 0 → Q (some (.int (Int32.ofInt (-1)))) (hp p s q I J)) ∧ (¬ ((sx_X11_isPart a2) = Int32.ofInt 0) → (mm_s SL xs (d + 3) 259 [.ref 65, .int a0, .int a1] (hp p s q I J) (fun r_ h_ => ∃ x1 I1 J1, r_ = some (.int x1) ∧ h_ = hp p s q I1 J1 ∧ ((Int32.ofInt 0 ≤ x1 → (vp_in a1 9 ∧ (mm_s SL xs (d + 3) 255 [.ref 65, .int a0, .int x1] (hp p s q I1 J1) (fun r_ h_ => ∃ x2 I2 J2, r_ = some (.int x2) ∧ h_ = hp p s q I2 J2 ∧ (mm_s SL xs (d + 3) 254 [.ref 65] (hp p s q I2 J2) (fun r_ h_ => ∃ x3 I3 J3, r_ = some (.int x3) ∧ h_ = hp p s q I3 J3 ∧ (mm_s SL xs (d + 3) 256 [.int ((I1 82 ((a1).toNatClampNeg)) * x2), .int x3, .int a2] (hp p s q I3 J3) (fun r_ h_ => ∃ x4 I4 J4, r_ = some (.int x4) ∧ h_ = hp p s q I4 J4 ∧ Q (some (.int x4)) (hp p s q I4 J4))))))))) ∧ (¬ (Int32.ofInt 0 ≤ x1) → Q (some (.int (Int32.ofInt (-1)))) (hp p s q I1 J1)))))))) : mm_s SL xs (d + 4) 261 [.ref 65, .int a0, .int a1, .int a2] (hp p s q I J) Q := by
  refine e_X11_expected rfl ?_
  refine hs_L (L2 := [some (.ref 65), some (.int a0), some (.int a1), some (.int a2), none]) rfl ?_
  refine sp_iload_n 1 rfl rfl rfl ?_
  refine sc_S 4 rfl rfl rfl rfl (Nat.le_refl _) (Nat.le_refl _) rfl ?_
  refine cx_X11_isPart ?_
  refine hs_S (st2 := [.int (sx_X11_isPart a2)]) rfl ?_
  refine sp_if_eq 7 rfl rfl (fun q_ => ?_) (fun q_ => ?_)
  · have k := k.1 q_
    refine sp_iconst 17 rfl rfl ?_
    refine hs_istore 19 (L2 := [some (.ref 65), some (.int a0), some (.int a1), some (.int a2), some (.int (Int32.ofInt (-1)))]) rfl rfl rfl rfl ?_
    refine sp_iload 21 rfl rfl rfl ?_
    refine sp_if_ge 24 rfl rfl (fun q_ => absurd q_ (by decide)) (fun _ => ?_)
    refine sp_iconst 25 rfl rfl ?_
    refine sp_goto rfl ?_
    exact st_iret rfl rfl (Nat.le_refl _) (Nat.le_refl _) k
  · have k := k.2 q_
    refine sp_aload_n 8 rfl rfl rfl ?_
    refine sp_iload_n 9 rfl rfl rfl ?_
    refine sp_iload_n 10 rfl rfl rfl ?_
    refine sc_V 13 rfl rfl rfl rfl rfl (Nat.le_refl _) (Nat.le_refl _) rfl ?_
    refine mm_s_mono _ _ _ _ _ _ ?_ k
    rintro r_ h_ ⟨x1, I1, J1, rfl, rfl, k⟩
    refine hs_S (st2 := [.int x1]) rfl ?_
    refine sp_goto rfl ?_
    refine hs_istore 19 (L2 := [some (.ref 65), some (.int a0), some (.int a1), some (.int a2), some (.int x1)]) rfl rfl rfl rfl ?_
    refine sp_iload 21 rfl rfl rfl ?_
    refine sp_if_ge 24 rfl rfl (fun q_ => ?_) (fun q_ => ?_)
    · have k := k.1 q_
      refine sp_aload_n 29 rfl rfl rfl ?_
      refine hq_getR 32 rfl rfl rfl rfl ?_
      refine sp_iload_n 33 rfl rfl rfl ?_
      have n1_ := k.1
      have k := k.2
      refine hq_iald 34 rfl rfl n1_ rfl ?_
      refine sp_aload_n 35 rfl rfl rfl ?_
      refine sp_iload_n 36 rfl rfl rfl ?_
      refine sp_iload 38 rfl rfl rfl ?_
      refine sc_V 41 rfl rfl rfl rfl rfl (Nat.le_refl _) (Nat.le_refl _) rfl ?_
      refine mm_s_mono _ _ _ _ _ _ ?_ k
      rintro r_ h_ ⟨x2, I2, J2, rfl, rfl, k⟩
      refine hs_S (st2 := [.int x2, .int (I1 82 ((a1).toNatClampNeg))]) rfl ?_
      refine sp_imul 42 rfl rfl ?_
      refine sp_aload_n 43 rfl rfl rfl ?_
      refine sc_V 46 rfl rfl rfl rfl rfl (Nat.le_refl _) (Nat.le_refl _) rfl ?_
      refine mm_s_mono _ _ _ _ _ _ ?_ k
      rintro r_ h_ ⟨x3, I3, J3, rfl, rfl, k⟩
      refine hs_S (st2 := [.int x3, .int ((I1 82 ((a1).toNatClampNeg)) * x2)]) rfl ?_
      refine sp_iload_n 47 rfl rfl rfl ?_
      refine sc_S 50 rfl rfl rfl rfl (Nat.le_refl _) (Nat.le_refl _) rfl ?_
      refine mm_s_mono _ _ _ _ _ _ ?_ k
      rintro r_ h_ ⟨x4, I4, J4, rfl, rfl, k⟩
      refine hs_S (st2 := [.int x4]) rfl ?_
      exact st_iret rfl rfl (Nat.le_refl _) (Nat.le_refl _) k
    · have k := k.2 q_
      refine sp_iconst 25 rfl rfl ?_
      refine sp_goto rfl ?_
      exact st_iret rfl rfl (Nat.le_refl _) (Nat.le_refl _) k
def w_X11_readCount_16 (SL : Nat) (xs : Nat → Int32) (d : Nat) (p s q : Nat) (Q : Option Value → mm_H → Prop) (v1 : Int32) (I : Nat → Nat → Int32) (J : Nat → Nat → Int64) : Prop := mm_w SL xs (mm_s SL xs (d + 4)) mm_am kX11_readCount 0 0 none Q 16 [some (.ref 65), some (.int v1)] [] (hp p s q I J) 0 0
theorem sg_X11_readCount {SL : Nat} {xs : Nat → Int32} {d : Nat} {p s q : Nat} {Q : Option Value → mm_H → Prop}  {I : Nat → Nat → Int32} {J : Nat → Nat → Int64}  (k : (mm_s SL xs (d + 4) 172 [.ref 65] (hp p s q I J) (fun r_ h_ => ∃ I1 J1, r_ = none ∧ h_ = hp p s q I1 J1 ∧ w_X11_readCount_16 SL xs d p s q Q (Int32.ofInt 0) (mm_u (mm_u I1 65 22 (Int32.ofInt 0)) 65 23 (Int32.ofInt 0)) J1))) : mm_s SL xs (d + 5) 190 [.ref 65] (hp p s q I J) Q := by
  refine e_X11_readCount rfl ?_
  refine hs_L (L2 := [some (.ref 65), none]) rfl ?_
  refine sp_aload_n 1 rfl rfl rfl ?_
  refine sc_V 4 rfl rfl rfl rfl rfl (Nat.le_refl _) (Nat.le_refl _) rfl ?_
  refine mm_s_mono _ _ _ _ _ _ ?_ k
  rintro r_ h_ ⟨I1, J1, rfl, rfl, k⟩
  refine hs_S (st2 := []) rfl ?_
  refine sp_aload_n 5 rfl rfl rfl ?_
  refine sp_iconst 6 rfl rfl ?_
  refine hq_putI 9 rfl rfl rfl ?_
  refine sp_aload_n 10 rfl rfl rfl ?_
  refine sp_iconst 11 rfl rfl ?_
  refine hq_putI 14 rfl rfl rfl ?_
  refine sp_iconst 15 rfl rfl ?_
  refine hs_istore_n 16 (L2 := [some (.ref 65), some (.int (Int32.ofInt 0))]) rfl rfl rfl rfl ?_
  exact k
theorem sg_X11_readCount_16 {SL : Nat} {xs : Nat → Int32} {d : Nat} {p s q : Nat} {Q : Option Value → mm_H → Prop} {v1 : Int32} {I : Nat → Nat → Int32} {J : Nat → Nat → Int64}  (k : (((I 65 2) = Int32.ofInt 0 → ((v1 = (Int32.ofInt 2) → (mm_s SL xs (d + 4) 185 [.ref 65] (hp p s q I J) (fun r_ h_ => ∃ x4 I4 J4, r_ = some (.int x4) ∧ h_ = hp p s q I4 J4 ∧ ((x4 = Int32.ofInt 0 → (((I4 65 6) = (Int32.ofInt 59) → (((I4 65 2) = Int32.ofInt 0 → (mm_s SL xs (d + 4) 184 [.ref 65, .int (Int32.ofInt 0)] (hp p s q I4 J4) (fun r_ h_ => ∃ I7 J7, r_ = none ∧ h_ = hp p s q I7 J7 ∧ Q none (hp p s q I7 J7)))) ∧ (¬ ((I4 65 2) = Int32.ofInt 0) → Q none (hp p s q I4 J4)))) ∧ (¬ ((I4 65 6) = (Int32.ofInt 59)) → ((v1 = (Int32.ofInt 2) → (mm_s SL xs (d + 4) 189 [.ref 65] (hp p s q I4 J4) (fun r_ h_ => ∃ x9 I9 J9, r_ = some (.int x9) ∧ h_ = hp p s q I9 J9 ∧ w_X11_readCount_16 SL xs d p s q Q x9 I9 J9))) ∧ (¬ (v1 = (Int32.ofInt 2)) → (mm_s SL xs (d + 4) 187 [.ref 65, .int v1] (hp p s q I4 J4) (fun r_ h_ => ∃ x8 I8 J8, r_ = some (.int x8) ∧ h_ = hp p s q I8 J8 ∧ w_X11_readCount_16 SL xs d p s q Q x8 I8 J8))))))) ∧ (¬ (x4 = Int32.ofInt 0) → ((v1 = (Int32.ofInt 2) → (mm_s SL xs (d + 4) 189 [.ref 65] (hp p s q I4 J4) (fun r_ h_ => ∃ x6 I6 J6, r_ = some (.int x6) ∧ h_ = hp p s q I6 J6 ∧ w_X11_readCount_16 SL xs d p s q Q x6 I6 J6))) ∧ (¬ (v1 = (Int32.ofInt 2)) → (mm_s SL xs (d + 4) 187 [.ref 65, .int v1] (hp p s q I4 J4) (fun r_ h_ => ∃ x5 I5 J5, r_ = some (.int x5) ∧ h_ = hp p s q I5 J5 ∧ w_X11_readCount_16 SL xs d p s q Q x5 I5 J5))))))))) ∧ (¬ (v1 = (Int32.ofInt 2)) → ((v1 = (Int32.ofInt 2) → (mm_s SL xs (d + 4) 189 [.ref 65] (hp p s q I J) (fun r_ h_ => ∃ x3 I3 J3, r_ = some (.int x3) ∧ h_ = hp p s q I3 J3 ∧ w_X11_readCount_16 SL xs d p s q Q x3 I3 J3))) ∧ (¬ (v1 = (Int32.ofInt 2)) → (mm_s SL xs (d + 4) 187 [.ref 65, .int v1] (hp p s q I J) (fun r_ h_ => ∃ x2 I2 J2, r_ = some (.int x2) ∧ h_ = hp p s q I2 J2 ∧ w_X11_readCount_16 SL xs d p s q Q x2 I2 J2))))))) ∧ (¬ ((I 65 2) = Int32.ofInt 0) → (((I 65 2) = Int32.ofInt 0 → (mm_s SL xs (d + 4) 184 [.ref 65, .int (Int32.ofInt 0)] (hp p s q I J) (fun r_ h_ => ∃ I1 J1, r_ = none ∧ h_ = hp p s q I1 J1 ∧ Q none (hp p s q I1 J1)))) ∧ (¬ ((I 65 2) = Int32.ofInt 0) → Q none (hp p s q I J)))))) : w_X11_readCount_16 SL xs d p s q Q v1 I J := by
  unfold w_X11_readCount_16
  refine sp_aload_n 17 rfl rfl rfl ?_
  refine hq_getI 20 rfl rfl rfl ?_
  refine sp_if_ne 23 rfl rfl (fun q_ => ?_) (fun q_ => ?_)
  · have k := k.2 q_
    refine sp_aload_n 66 rfl rfl rfl ?_
    refine hq_getI 69 rfl rfl rfl ?_
    refine sp_if_ne 72 rfl rfl (fun q_ => ?_) (fun q_ => ?_)
    · have k := k.2 q_
      exact st_vret rfl rfl (Nat.le_refl _) (Nat.le_refl _) k
    · have k := k.1 q_
      refine sp_aload_n 73 rfl rfl rfl ?_
      refine sp_iconst 74 rfl rfl ?_
      refine sc_V 77 rfl rfl rfl rfl rfl (Nat.le_refl _) (Nat.le_refl _) rfl ?_
      refine mm_s_mono _ _ _ _ _ _ ?_ k
      rintro r_ h_ ⟨I1, J1, rfl, rfl, k⟩
      refine hs_S (st2 := []) rfl ?_
      exact st_vret rfl rfl (Nat.le_refl _) (Nat.le_refl _) k
  · have k := k.1 q_
    refine sp_iload_n 24 rfl rfl rfl ?_
    refine sp_iconst 25 rfl rfl ?_
    refine sp_ic_ne 28 rfl rfl (fun q_ => ?_) (fun q_ => ?_)
    · have k := k.2 q_
      refine sp_iload_n 45 rfl rfl rfl ?_
      refine sp_iconst 46 rfl rfl ?_
      refine sp_ic_ne 49 rfl rfl (fun q_ => ?_) (fun q_ => ?_)
      · have k := k.2 q_
        refine sp_aload_n 57 rfl rfl rfl ?_
        refine sp_iload_n 58 rfl rfl rfl ?_
        refine sc_V 61 rfl rfl rfl rfl rfl (Nat.le_refl _) (Nat.le_refl _) rfl ?_
        refine mm_s_mono _ _ _ _ _ _ ?_ k
        rintro r_ h_ ⟨x2, I2, J2, rfl, rfl, k⟩
        refine hs_S (st2 := [.int x2]) rfl ?_
        refine hs_istore_n 62 (L2 := [some (.ref 65), some (.int x2)]) rfl rfl rfl rfl ?_
        refine sp_goto rfl ?_
        exact k
      · have k := k.1 q_
        refine sp_aload_n 50 rfl rfl rfl ?_
        refine sc_V 53 rfl rfl rfl rfl rfl (Nat.le_refl _) (Nat.le_refl _) rfl ?_
        refine mm_s_mono _ _ _ _ _ _ ?_ k
        rintro r_ h_ ⟨x3, I3, J3, rfl, rfl, k⟩
        refine hs_S (st2 := [.int x3]) rfl ?_
        refine sp_goto rfl ?_
        refine hs_istore_n 62 (L2 := [some (.ref 65), some (.int x3)]) rfl rfl rfl rfl ?_
        refine sp_goto rfl ?_
        exact k
    · have k := k.1 q_
      refine sp_aload_n 29 rfl rfl rfl ?_
      refine sc_V 32 rfl rfl rfl rfl rfl (Nat.le_refl _) (Nat.le_refl _) rfl ?_
      refine mm_s_mono _ _ _ _ _ _ ?_ k
      rintro r_ h_ ⟨x4, I4, J4, rfl, rfl, k⟩
      refine hs_S (st2 := [.int x4]) rfl ?_
      refine sp_if_ne 35 rfl rfl (fun q_ => ?_) (fun q_ => ?_)
      · have k := k.2 q_
        refine sp_iload_n 45 rfl rfl rfl ?_
        refine sp_iconst 46 rfl rfl ?_
        refine sp_ic_ne 49 rfl rfl (fun q_ => ?_) (fun q_ => ?_)
        · have k := k.2 q_
          refine sp_aload_n 57 rfl rfl rfl ?_
          refine sp_iload_n 58 rfl rfl rfl ?_
          refine sc_V 61 rfl rfl rfl rfl rfl (Nat.le_refl _) (Nat.le_refl _) rfl ?_
          refine mm_s_mono _ _ _ _ _ _ ?_ k
          rintro r_ h_ ⟨x5, I5, J5, rfl, rfl, k⟩
          refine hs_S (st2 := [.int x5]) rfl ?_
          refine hs_istore_n 62 (L2 := [some (.ref 65), some (.int x5)]) rfl rfl rfl rfl ?_
          refine sp_goto rfl ?_
          exact k
        · have k := k.1 q_
          refine sp_aload_n 50 rfl rfl rfl ?_
          refine sc_V 53 rfl rfl rfl rfl rfl (Nat.le_refl _) (Nat.le_refl _) rfl ?_
          refine mm_s_mono _ _ _ _ _ _ ?_ k
          rintro r_ h_ ⟨x6, I6, J6, rfl, rfl, k⟩
          refine hs_S (st2 := [.int x6]) rfl ?_
          refine sp_goto rfl ?_
          refine hs_istore_n 62 (L2 := [some (.ref 65), some (.int x6)]) rfl rfl rfl rfl ?_
          refine sp_goto rfl ?_
          exact k
      · have k := k.1 q_
        refine sp_aload_n 36 rfl rfl rfl ?_
        refine hq_getI 39 rfl rfl rfl ?_
        refine sp_bipush 41 rfl rfl ?_
        refine sp_I (y := Int32.ofInt 59) rfl ?_
        refine sp_ic_eq 44 rfl rfl (fun q_ => ?_) (fun q_ => ?_)
        · have k := k.1 q_
          refine sp_aload_n 66 rfl rfl rfl ?_
          refine hq_getI 69 rfl rfl rfl ?_
          refine sp_if_ne 72 rfl rfl (fun q_ => ?_) (fun q_ => ?_)
          · have k := k.2 q_
            exact st_vret rfl rfl (Nat.le_refl _) (Nat.le_refl _) k
          · have k := k.1 q_
            refine sp_aload_n 73 rfl rfl rfl ?_
            refine sp_iconst 74 rfl rfl ?_
            refine sc_V 77 rfl rfl rfl rfl rfl (Nat.le_refl _) (Nat.le_refl _) rfl ?_
            refine mm_s_mono _ _ _ _ _ _ ?_ k
            rintro r_ h_ ⟨I7, J7, rfl, rfl, k⟩
            refine hs_S (st2 := []) rfl ?_
            exact st_vret rfl rfl (Nat.le_refl _) (Nat.le_refl _) k
        · have k := k.2 q_
          refine sp_iload_n 45 rfl rfl rfl ?_
          refine sp_iconst 46 rfl rfl ?_
          refine sp_ic_ne 49 rfl rfl (fun q_ => ?_) (fun q_ => ?_)
          · have k := k.2 q_
            refine sp_aload_n 57 rfl rfl rfl ?_
            refine sp_iload_n 58 rfl rfl rfl ?_
            refine sc_V 61 rfl rfl rfl rfl rfl (Nat.le_refl _) (Nat.le_refl _) rfl ?_
            refine mm_s_mono _ _ _ _ _ _ ?_ k
            rintro r_ h_ ⟨x8, I8, J8, rfl, rfl, k⟩
            refine hs_S (st2 := [.int x8]) rfl ?_
            refine hs_istore_n 62 (L2 := [some (.ref 65), some (.int x8)]) rfl rfl rfl rfl ?_
            refine sp_goto rfl ?_
            exact k
          · have k := k.1 q_
            refine sp_aload_n 50 rfl rfl rfl ?_
            refine sc_V 53 rfl rfl rfl rfl rfl (Nat.le_refl _) (Nat.le_refl _) rfl ?_
            refine mm_s_mono _ _ _ _ _ _ ?_ k
            rintro r_ h_ ⟨x9, I9, J9, rfl, rfl, k⟩
            refine hs_S (st2 := [.int x9]) rfl ?_
            refine sp_goto rfl ?_
            refine hs_istore_n 62 (L2 := [some (.ref 65), some (.int x9)]) rfl rfl rfl rfl ?_
            refine sp_goto rfl ?_
            exact k
theorem sg_X11_readGuard {SL : Nat} {xs : Nat → Int32} {d : Nat} {p s q : Nat} {Q : Option Value → mm_H → Prop}  {I : Nat → Nat → Int32} {J : Nat → Nat → Int64}  (k : (mm_s SL xs (d + 4) 172 [.ref 65] (hp p s q I J) (fun r_ h_ => ∃ I1 J1, r_ = none ∧ h_ = hp p s q I1 J1 ∧ (mm_s SL xs (d + 4) 177 [.ref 65, .int (Int32.ofInt 0), .int (Int32.ofInt 59)] (hp p s q I1 J1) (fun r_ h_ => ∃ x2 I2 J2, r_ = some (.int x2) ∧ h_ = hp p s q I2 J2 ∧ (mm_s SL xs (d + 4) 178 [.ref 65, .long (Int64.ofInt 29807), .int x2, .int (Int32.ofInt 59)] (hp p s q I2 J2) (fun r_ h_ => ∃ x3 I3 J3, r_ = some (.int x3) ∧ h_ = hp p s q I3 J3 ∧ (((I3 65 2) ≤ Int32.ofInt 0 → (vp_in (I3 65 37) 8 ∧ Q none (hp p s q (mm_u (mm_u (mm_u I3 75 (((I3 65 37)).toNatClampNeg) x2) 76 (((I3 65 37)).toNatClampNeg) x3) 65 37 ((I3 65 37) + (Int32.ofInt 1))) J3))) ∧ (¬ ((I3 65 2) ≤ Int32.ofInt 0) → Q none (hp p s q I3 J3)))))))))) : mm_s SL xs (d + 5) 192 [.ref 65] (hp p s q I J) Q := by
  refine e_X11_readGuard rfl ?_
  refine hs_L (L2 := [some (.ref 65), none, none]) rfl ?_
  refine sp_aload_n 1 rfl rfl rfl ?_
  refine sc_V 4 rfl rfl rfl rfl rfl (Nat.le_refl _) (Nat.le_refl _) rfl ?_
  refine mm_s_mono _ _ _ _ _ _ ?_ k
  rintro r_ h_ ⟨I1, J1, rfl, rfl, k⟩
  refine hs_S (st2 := []) rfl ?_
  refine sp_aload_n 5 rfl rfl rfl ?_
  refine sp_iconst 6 rfl rfl ?_
  refine sp_bipush 8 rfl rfl ?_
  refine sp_I (y := Int32.ofInt 59) rfl ?_
  refine sc_V 11 rfl rfl rfl rfl rfl (Nat.le_refl _) (Nat.le_refl _) rfl ?_
  refine mm_s_mono _ _ _ _ _ _ ?_ k
  rintro r_ h_ ⟨x2, I2, J2, rfl, rfl, k⟩
  refine hs_S (st2 := [.int x2]) rfl ?_
  refine hs_istore_n 12 (L2 := [some (.ref 65), some (.int x2), none]) rfl rfl rfl rfl ?_
  refine sp_aload_n 13 rfl rfl rfl ?_
  refine sp_ldc2 16 rfl rfl ?_
  refine sp_iload_n 17 rfl rfl rfl ?_
  refine sp_bipush 19 rfl rfl ?_
  refine sp_I (y := Int32.ofInt 59) rfl ?_
  refine sc_V 22 rfl rfl rfl rfl rfl (Nat.le_refl _) (Nat.le_refl _) rfl ?_
  refine mm_s_mono _ _ _ _ _ _ ?_ k
  rintro r_ h_ ⟨x3, I3, J3, rfl, rfl, k⟩
  refine hs_S (st2 := [.int x3]) rfl ?_
  refine hs_istore_n 23 (L2 := [some (.ref 65), some (.int x2), some (.int x3)]) rfl rfl rfl rfl ?_
  refine sp_aload_n 24 rfl rfl rfl ?_
  refine hq_getI 27 rfl rfl rfl ?_
  refine sp_if_le 30 rfl rfl (fun q_ => ?_) (fun q_ => ?_)
  · have k := k.1 q_
    refine sp_aload_n 32 rfl rfl rfl ?_
    refine hq_getR 35 rfl rfl rfl rfl ?_
    refine sp_aload_n 36 rfl rfl rfl ?_
    refine hq_getI 39 rfl rfl rfl ?_
    refine sp_iload_n 40 rfl rfl rfl ?_
    have n1_ := k.1
    have k := k.2
    refine hq_iast 41 rfl rfl n1_ rfl ?_
    refine sp_aload_n 42 rfl rfl rfl ?_
    refine hq_getR 45 rfl rfl rfl rfl ?_
    refine sp_aload_n 46 rfl rfl rfl ?_
    refine hq_getI 49 rfl rfl rfl ?_
    refine sp_I (y := (I3 65 37)) (by simp [mm_u]) ?_
    refine sp_iload_n 50 rfl rfl rfl ?_
    refine hq_iast 51 rfl rfl n1_ rfl ?_
    refine sp_aload_n 52 rfl rfl rfl ?_
    refine sp_dup 53 rfl rfl rfl ?_
    refine hq_getI 56 rfl rfl rfl ?_
    refine sp_I (y := (I3 65 37)) (by simp [mm_u]) ?_
    refine sp_iconst 57 rfl rfl ?_
    refine sp_iadd 58 rfl rfl ?_
    refine hq_putI 61 rfl rfl rfl ?_
    exact st_vret rfl rfl (Nat.le_refl _) (Nat.le_refl _) k
  · have k := k.2 q_
    exact st_vret rfl rfl (Nat.le_refl _) (Nat.le_refl _) k
