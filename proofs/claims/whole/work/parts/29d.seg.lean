def w_X11_guess_29 (SL : Nat) (xs : Nat → Int32) (d : Nat) (p s q : Nat) (Q : Option Value → mm_H → Prop) (v1 : Int32) (v2 : Int32) (v3 : Int32) (v4 : Int32) (v5 : Int32) (v6 : Int32) (I : Nat → Nat → Int32) (J : Nat → Nat → Int64) : Prop := mm_w SL xs (mm_s SL xs (d + 1)) mm_am kX11_guess 0 0 (some .int) Q 29 [some (.ref 65), some (.int v1), some (.int v2), some (.int v3), some (.int v4), some (.int v5), some (.int v6), none, none] [] (hp p s q I J) 0 0
def w_X11_guess_54 (SL : Nat) (xs : Nat → Int32) (d : Nat) (p s q : Nat) (Q : Option Value → mm_H → Prop) (v1 : Int32) (v2 : Int32) (v3 : Int32) (v4 : Int32) (v5 : Int32) (v6 : Int32) (v7 : Int32) (I : Nat → Nat → Int32) (J : Nat → Nat → Int64) : Prop := mm_w SL xs (mm_s SL xs (d + 1)) mm_am kX11_guess 0 0 (some .int) Q 54 [some (.ref 65), some (.int v1), some (.int v2), some (.int v3), some (.int v4), some (.int v5), some (.int v6), some (.int v7), none] [] (hp p s q I J) 0 0
def w_X11_guess_64 (SL : Nat) (xs : Nat → Int32) (d : Nat) (p s q : Nat) (Q : Option Value → mm_H → Prop) (v1 : Int32) (v2 : Int32) (v3 : Int32) (v4 : Int32) (v5 : Int32) (v6 : Int32) (v7 : Int32) (v8 : Int32) (I : Nat → Nat → Int32) (J : Nat → Nat → Int64) : Prop := mm_w SL xs (mm_s SL xs (d + 1)) mm_am kX11_guess 0 0 (some .int) Q 64 [some (.ref 65), some (.int v1), some (.int v2), some (.int v3), some (.int v4), some (.int v5), some (.int v6), some (.int v7), some (.int v8)] [] (hp p s q I J) 0 0
theorem sg_X11_guess {SL : Nat} {xs : Nat → Int32} {d : Nat} {p s q : Nat} {Q : Option Value → mm_H → Prop} {a0 : Int32} {a1 : Int32} {I : Nat → Nat → Int32} {J : Nat → Nat → Int64}  (k : (((sx_X11_isSmall a0) = Int32.ofInt 0 → Q (some (.int (Int32.ofInt (-1)))) (hp p s q I J)) ∧ (¬ ((sx_X11_isSmall a0) = Int32.ofInt 0) → ((a1 < Int32.ofInt 0 → Q (some (.int (Int32.ofInt (-1)))) (hp p s q I J)) ∧ (¬ (a1 < Int32.ofInt 0) → ((a1 ≤ (Int32.ofInt 1) → w_X11_guess_29 SL xs d p s q Q a0 a1 (Int32.ofInt 0) (Int32.ofInt (-1)) (Int32.ofInt 0) (Int32.ofInt 1) I J) ∧ (¬ (a1 ≤ (Int32.ofInt 1)) → Q (some (.int (Int32.ofInt (-1)))) (hp p s q I J)))))))) : mm_s SL xs (d + 2) 247 [.ref 65, .int a0, .int a1] (hp p s q I J) Q := by
  refine e_X11_guess rfl ?_
  refine hs_L (L2 := [some (.ref 65), some (.int a0), some (.int a1), none, none, none, none, none, none]) rfl ?_
  refine sp_iload_n 1 rfl rfl rfl ?_
  refine sc_S 4 rfl rfl rfl rfl (Nat.le_refl _) (Nat.le_refl _) rfl ?_
  refine cx_X11_isSmall ?_
  refine hs_S (st2 := [.int (sx_X11_isSmall a0)]) rfl ?_
  refine sp_if_eq 7 rfl rfl (fun q_ => ?_) (fun q_ => ?_)
  · have k := k.1 q_
    refine sp_iconst 17 rfl rfl ?_
    exact st_iret rfl rfl (Nat.le_refl _) (Nat.le_refl _) k
  · have k := k.2 q_
    refine sp_iload_n 8 rfl rfl rfl ?_
    refine sp_if_lt 11 rfl rfl (fun q_ => ?_) (fun q_ => ?_)
    · have k := k.1 q_
      refine sp_iconst 17 rfl rfl ?_
      exact st_iret rfl rfl (Nat.le_refl _) (Nat.le_refl _) k
    · have k := k.2 q_
      refine sp_iload_n 12 rfl rfl rfl ?_
      refine sp_iconst 13 rfl rfl ?_
      refine sp_ic_le 16 rfl rfl (fun q_ => ?_) (fun q_ => ?_)
      · have k := k.1 q_
        refine sp_iconst 19 rfl rfl ?_
        refine hs_istore_n 20 (L2 := [some (.ref 65), some (.int a0), some (.int a1), some (.int (Int32.ofInt 0)), none, none, none, none, none]) rfl rfl rfl rfl ?_
        refine sp_iconst 21 rfl rfl ?_
        refine hs_istore 23 (L2 := [some (.ref 65), some (.int a0), some (.int a1), some (.int (Int32.ofInt 0)), some (.int (Int32.ofInt (-1))), none, none, none, none]) rfl rfl rfl rfl ?_
        refine sp_iconst 24 rfl rfl ?_
        refine hs_istore 26 (L2 := [some (.ref 65), some (.int a0), some (.int a1), some (.int (Int32.ofInt 0)), some (.int (Int32.ofInt (-1))), some (.int (Int32.ofInt 0)), none, none, none]) rfl rfl rfl rfl ?_
        refine sp_iconst 27 rfl rfl ?_
        refine hs_istore 29 (L2 := [some (.ref 65), some (.int a0), some (.int a1), some (.int (Int32.ofInt 0)), some (.int (Int32.ofInt (-1))), some (.int (Int32.ofInt 0)), some (.int (Int32.ofInt 1)), none, none]) rfl rfl rfl rfl ?_
        exact k
      · have k := k.2 q_
        refine sp_iconst 17 rfl rfl ?_
        exact st_iret rfl rfl (Nat.le_refl _) (Nat.le_refl _) k
theorem sg_X11_guess_29 {SL : Nat} {xs : Nat → Int32} {d : Nat} {p s q : Nat} {Q : Option Value → mm_H → Prop} {v1 : Int32} {v2 : Int32} {v3 : Int32} {v4 : Int32} {v5 : Int32} {v6 : Int32} {I : Nat → Nat → Int32} {J : Nat → Nat → Int64}  (k : (((Int32.ofInt 12) < v6 → ((v2 = Int32.ofInt 0 → Q (some (.int v3)) (hp p s q I J)) ∧ (¬ (v2 = Int32.ofInt 0) → Q (some (.int v4)) (hp p s q I J)))) ∧ (¬ ((Int32.ofInt 12) < v6) → (((I 65 80) ≤ Int32.ofInt 0 → ((v2 = Int32.ofInt 0 → Q (some (.int v3)) (hp p s q I J)) ∧ (¬ (v2 = Int32.ofInt 0) → Q (some (.int v4)) (hp p s q I J)))) ∧ (¬ ((I 65 80) ≤ Int32.ofInt 0) → ((v1 < (I 65 80) → ((v2 = Int32.ofInt 0 → Q (some (.int v3)) (hp p s q I J)) ∧ (¬ (v2 = Int32.ofInt 0) → Q (some (.int v4)) (hp p s q I J)))) ∧ (¬ (v1 < (I 65 80)) → w_X11_guess_54 SL xs d p s q Q v1 v2 v3 v4 v5 v6 (Int32.ofInt 1) I J))))))) : w_X11_guess_29 SL xs d p s q Q v1 v2 v3 v4 v5 v6 I J := by
  unfold w_X11_guess_29
  refine sp_iload 31 rfl rfl rfl ?_
  refine sp_bipush 33 rfl rfl ?_
  refine sp_I (y := Int32.ofInt 12) rfl ?_
  refine sp_ic_gt 36 rfl rfl (fun q_ => ?_) (fun q_ => ?_)
  · have k := k.1 q_
    refine sp_iload_n 158 rfl rfl rfl ?_
    refine sp_if_ne 161 rfl rfl (fun q_ => ?_) (fun q_ => ?_)
    · have k := k.2 q_
      refine sp_iload 167 rfl rfl rfl ?_
      exact st_iret rfl rfl (Nat.le_refl _) (Nat.le_refl _) k
    · have k := k.1 q_
      refine sp_iload_n 162 rfl rfl rfl ?_
      refine sp_goto rfl ?_
      exact st_iret rfl rfl (Nat.le_refl _) (Nat.le_refl _) k
  · have k := k.2 q_
    refine sp_aload_n 37 rfl rfl rfl ?_
    refine hq_getI 40 rfl rfl rfl ?_
    refine sp_if_le 43 rfl rfl (fun q_ => ?_) (fun q_ => ?_)
    · have k := k.1 q_
      refine sp_iload_n 158 rfl rfl rfl ?_
      refine sp_if_ne 161 rfl rfl (fun q_ => ?_) (fun q_ => ?_)
      · have k := k.2 q_
        refine sp_iload 167 rfl rfl rfl ?_
        exact st_iret rfl rfl (Nat.le_refl _) (Nat.le_refl _) k
      · have k := k.1 q_
        refine sp_iload_n 162 rfl rfl rfl ?_
        refine sp_goto rfl ?_
        exact st_iret rfl rfl (Nat.le_refl _) (Nat.le_refl _) k
    · have k := k.2 q_
      refine sp_aload_n 44 rfl rfl rfl ?_
      refine hq_getI 47 rfl rfl rfl ?_
      refine sp_iload_n 48 rfl rfl rfl ?_
      refine sp_ic_gt 51 rfl rfl (fun q_ => ?_) (fun q_ => ?_)
      · have k := k.1 q_
        refine sp_iload_n 158 rfl rfl rfl ?_
        refine sp_if_ne 161 rfl rfl (fun q_ => ?_) (fun q_ => ?_)
        · have k := k.2 q_
          refine sp_iload 167 rfl rfl rfl ?_
          exact st_iret rfl rfl (Nat.le_refl _) (Nat.le_refl _) k
        · have k := k.1 q_
          refine sp_iload_n 162 rfl rfl rfl ?_
          refine sp_goto rfl ?_
          exact st_iret rfl rfl (Nat.le_refl _) (Nat.le_refl _) k
      · have k := k.2 q_
        refine sp_iconst 52 rfl rfl ?_
        refine hs_istore 54 (L2 := [some (.ref 65), some (.int v1), some (.int v2), some (.int v3), some (.int v4), some (.int v5), some (.int v6), some (.int (Int32.ofInt 1)), none]) rfl rfl rfl rfl ?_
        exact k
theorem sg_X11_guess_54 {SL : Nat} {xs : Nat → Int32} {d : Nat} {p s q : Nat} {Q : Option Value → mm_H → Prop} {v1 : Int32} {v2 : Int32} {v3 : Int32} {v4 : Int32} {v5 : Int32} {v6 : Int32} {v7 : Int32} {I : Nat → Nat → Int32} {J : Nat → Nat → Int64}  (k : (((Int32.ofInt 12) < v7 → w_X11_guess_29 SL xs d p s q Q v1 v2 v3 v4 v5 (v6 + Int32.ofInt 1) I J) ∧ (¬ ((Int32.ofInt 12) < v7) → w_X11_guess_64 SL xs d p s q Q v1 v2 v3 v4 v5 v6 v7 (Int32.ofInt 0) I J))) : w_X11_guess_54 SL xs d p s q Q v1 v2 v3 v4 v5 v6 v7 I J := by
  unfold w_X11_guess_54
  refine sp_iload 56 rfl rfl rfl ?_
  refine sp_bipush 58 rfl rfl ?_
  refine sp_I (y := Int32.ofInt 12) rfl ?_
  refine sp_ic_gt 61 rfl rfl (fun q_ => ?_) (fun q_ => ?_)
  · have k := k.1 q_
    refine hs_iinc 154 (L2 := [some (.ref 65), some (.int v1), some (.int v2), some (.int v3), some (.int v4), some (.int v5), some (.int (v6 + Int32.ofInt 1)), some (.int v7), none]) rfl rfl rfl rfl rfl ?_
    refine sp_goto rfl ?_
    refine st_wk (L1 := [some (.ref 65), some (.int v1), some (.int v2), some (.int v3), some (.int v4), some (.int v5), some (.int (v6 + Int32.ofInt 1)), none, none]) ⟨.inr rfl, .inr rfl, .inr rfl, .inr rfl, .inr rfl, .inr rfl, .inr rfl, .inl rfl, .inl rfl, trivial⟩ ?_
    exact k
  · have k := k.2 q_
    refine sp_iconst 62 rfl rfl ?_
    refine hs_istore 64 (L2 := [some (.ref 65), some (.int v1), some (.int v2), some (.int v3), some (.int v4), some (.int v5), some (.int v6), some (.int v7), some (.int (Int32.ofInt 0))]) rfl rfl rfl rfl ?_
    exact k
theorem sg_X11_guess_64 {SL : Nat} {xs : Nat → Int32} {d : Nat} {p s q : Nat} {Q : Option Value → mm_H → Prop} {v1 : Int32} {v2 : Int32} {v3 : Int32} {v4 : Int32} {v5 : Int32} {v6 : Int32} {v7 : Int32} {v8 : Int32} {I : Nat → Nat → Int32} {J : Nat → Nat → Int64}  (k : (((Int32.ofInt 6) < v8 → w_X11_guess_54 SL xs d p s q Q v1 v2 v3 v4 v5 v6 (v7 + Int32.ofInt 1) I J) ∧ (¬ ((Int32.ofInt 6) < v8) → (mm_s SL xs (d + 1) 246 [.ref 65, .int v1, .int v6, .int v7, .int v8] (hp p s q I J) (fun r_ h_ => ∃ x1 I1 J1, r_ = some (.int x1) ∧ h_ = hp p s q I1 J1 ∧ ((x1 = Int32.ofInt 0 → w_X11_guess_64 SL xs d p s q Q v1 v2 v3 v4 v5 v6 v7 (v8 + Int32.ofInt 1) I1 J1) ∧ (¬ (x1 = Int32.ofInt 0) → ((v4 < Int32.ofInt 0 → w_X11_guess_64 SL xs d p s q Q v1 v2 (v3 + Int32.ofInt 1) ((((Int32.ofInt 10000) * v6) + ((Int32.ofInt 100) * v7)) + v8) ((v6 + v7) + v8) v6 v7 (v8 + Int32.ofInt 1) I1 J1) ∧ (¬ (v4 < Int32.ofInt 0) → ((((v6 + v7) + v8) < v5 → w_X11_guess_64 SL xs d p s q Q v1 v2 (v3 + Int32.ofInt 1) ((((Int32.ofInt 10000) * v6) + ((Int32.ofInt 100) * v7)) + v8) ((v6 + v7) + v8) v6 v7 (v8 + Int32.ofInt 1) I1 J1) ∧ (¬ (((v6 + v7) + v8) < v5) → w_X11_guess_64 SL xs d p s q Q v1 v2 (v3 + Int32.ofInt 1) v4 v5 v6 v7 (v8 + Int32.ofInt 1) I1 J1))))))))))) : w_X11_guess_64 SL xs d p s q Q v1 v2 v3 v4 v5 v6 v7 v8 I J := by
  unfold w_X11_guess_64
  refine sp_iload 66 rfl rfl rfl ?_
  refine sp_bipush 68 rfl rfl ?_
  refine sp_I (y := Int32.ofInt 6) rfl ?_
  refine sp_ic_gt 71 rfl rfl (fun q_ => ?_) (fun q_ => ?_)
  · have k := k.1 q_
    refine hs_iinc 148 (L2 := [some (.ref 65), some (.int v1), some (.int v2), some (.int v3), some (.int v4), some (.int v5), some (.int v6), some (.int (v7 + Int32.ofInt 1)), some (.int v8)]) rfl rfl rfl rfl rfl ?_
    refine sp_goto rfl ?_
    refine st_wk (L1 := [some (.ref 65), some (.int v1), some (.int v2), some (.int v3), some (.int v4), some (.int v5), some (.int v6), some (.int (v7 + Int32.ofInt 1)), none]) ⟨.inr rfl, .inr rfl, .inr rfl, .inr rfl, .inr rfl, .inr rfl, .inr rfl, .inr rfl, .inl rfl, trivial⟩ ?_
    exact k
  · have k := k.2 q_
    refine sp_aload_n 72 rfl rfl rfl ?_
    refine sp_iload_n 73 rfl rfl rfl ?_
    refine sp_iload 75 rfl rfl rfl ?_
    refine sp_iload 77 rfl rfl rfl ?_
    refine sp_iload 79 rfl rfl rfl ?_
    refine sc_V 82 rfl rfl rfl rfl rfl (Nat.le_refl _) (Nat.le_refl _) rfl ?_
    refine mm_s_mono _ _ _ _ _ _ ?_ k
    rintro r_ h_ ⟨x1, I1, J1, rfl, rfl, k⟩
    refine hs_S (st2 := [.int x1]) rfl ?_
    refine sp_if_ne 85 rfl rfl (fun q_ => ?_) (fun q_ => ?_)
    · have k := k.2 q_
      refine hs_iinc 91 (L2 := [some (.ref 65), some (.int v1), some (.int v2), some (.int (v3 + Int32.ofInt 1)), some (.int v4), some (.int v5), some (.int v6), some (.int v7), some (.int v8)]) rfl rfl rfl rfl rfl ?_
      refine sp_iload 93 rfl rfl rfl ?_
      refine sp_if_lt 96 rfl rfl (fun q_ => ?_) (fun q_ => ?_)
      · have k := k.1 q_
        refine sp_sipush 115 rfl rfl ?_
        refine sp_I (y := Int32.ofInt 10000) rfl ?_
        refine sp_iload 117 rfl rfl rfl ?_
        refine sp_imul 118 rfl rfl ?_
        refine sp_bipush 120 rfl rfl ?_
        refine sp_I (y := Int32.ofInt 100) rfl ?_
        refine sp_iload 122 rfl rfl rfl ?_
        refine sp_imul 123 rfl rfl ?_
        refine sp_iadd 124 rfl rfl ?_
        refine sp_iload 126 rfl rfl rfl ?_
        refine sp_iadd 127 rfl rfl ?_
        refine hs_istore 129 (L2 := [some (.ref 65), some (.int v1), some (.int v2), some (.int (v3 + Int32.ofInt 1)), some (.int ((((Int32.ofInt 10000) * v6) + ((Int32.ofInt 100) * v7)) + v8)), some (.int v5), some (.int v6), some (.int v7), some (.int v8)]) rfl rfl rfl rfl ?_
        refine sp_iload 131 rfl rfl rfl ?_
        refine sp_iload 133 rfl rfl rfl ?_
        refine sp_iadd 134 rfl rfl ?_
        refine sp_iload 136 rfl rfl rfl ?_
        refine sp_iadd 137 rfl rfl ?_
        refine hs_istore 139 (L2 := [some (.ref 65), some (.int v1), some (.int v2), some (.int (v3 + Int32.ofInt 1)), some (.int ((((Int32.ofInt 10000) * v6) + ((Int32.ofInt 100) * v7)) + v8)), some (.int ((v6 + v7) + v8)), some (.int v6), some (.int v7), some (.int v8)]) rfl rfl rfl rfl ?_
        refine hs_iinc 142 (L2 := [some (.ref 65), some (.int v1), some (.int v2), some (.int (v3 + Int32.ofInt 1)), some (.int ((((Int32.ofInt 10000) * v6) + ((Int32.ofInt 100) * v7)) + v8)), some (.int ((v6 + v7) + v8)), some (.int v6), some (.int v7), some (.int (v8 + Int32.ofInt 1))]) rfl rfl rfl rfl rfl ?_
        refine sp_goto rfl ?_
        exact k
      · have k := k.2 q_
        refine sp_iload 98 rfl rfl rfl ?_
        refine sp_iload 100 rfl rfl rfl ?_
        refine sp_iadd 101 rfl rfl ?_
        refine sp_iload 103 rfl rfl rfl ?_
        refine sp_iadd 104 rfl rfl ?_
        refine sp_iload 106 rfl rfl rfl ?_
        refine sp_ic_lt 109 rfl rfl (fun q_ => ?_) (fun q_ => ?_)
        · have k := k.1 q_
          refine sp_sipush 115 rfl rfl ?_
          refine sp_I (y := Int32.ofInt 10000) rfl ?_
          refine sp_iload 117 rfl rfl rfl ?_
          refine sp_imul 118 rfl rfl ?_
          refine sp_bipush 120 rfl rfl ?_
          refine sp_I (y := Int32.ofInt 100) rfl ?_
          refine sp_iload 122 rfl rfl rfl ?_
          refine sp_imul 123 rfl rfl ?_
          refine sp_iadd 124 rfl rfl ?_
          refine sp_iload 126 rfl rfl rfl ?_
          refine sp_iadd 127 rfl rfl ?_
          refine hs_istore 129 (L2 := [some (.ref 65), some (.int v1), some (.int v2), some (.int (v3 + Int32.ofInt 1)), some (.int ((((Int32.ofInt 10000) * v6) + ((Int32.ofInt 100) * v7)) + v8)), some (.int v5), some (.int v6), some (.int v7), some (.int v8)]) rfl rfl rfl rfl ?_
          refine sp_iload 131 rfl rfl rfl ?_
          refine sp_iload 133 rfl rfl rfl ?_
          refine sp_iadd 134 rfl rfl ?_
          refine sp_iload 136 rfl rfl rfl ?_
          refine sp_iadd 137 rfl rfl ?_
          refine hs_istore 139 (L2 := [some (.ref 65), some (.int v1), some (.int v2), some (.int (v3 + Int32.ofInt 1)), some (.int ((((Int32.ofInt 10000) * v6) + ((Int32.ofInt 100) * v7)) + v8)), some (.int ((v6 + v7) + v8)), some (.int v6), some (.int v7), some (.int v8)]) rfl rfl rfl rfl ?_
          refine hs_iinc 142 (L2 := [some (.ref 65), some (.int v1), some (.int v2), some (.int (v3 + Int32.ofInt 1)), some (.int ((((Int32.ofInt 10000) * v6) + ((Int32.ofInt 100) * v7)) + v8)), some (.int ((v6 + v7) + v8)), some (.int v6), some (.int v7), some (.int (v8 + Int32.ofInt 1))]) rfl rfl rfl rfl rfl ?_
          refine sp_goto rfl ?_
          exact k
        · have k := k.2 q_
          refine sp_goto rfl ?_
          refine hs_iinc 142 (L2 := [some (.ref 65), some (.int v1), some (.int v2), some (.int (v3 + Int32.ofInt 1)), some (.int v4), some (.int v5), some (.int v6), some (.int v7), some (.int (v8 + Int32.ofInt 1))]) rfl rfl rfl rfl rfl ?_
          refine sp_goto rfl ?_
          exact k
    · have k := k.1 q_
      refine sp_goto rfl ?_
      refine hs_iinc 142 (L2 := [some (.ref 65), some (.int v1), some (.int v2), some (.int v3), some (.int v4), some (.int v5), some (.int v6), some (.int v7), some (.int (v8 + Int32.ofInt 1))]) rfl rfl rfl rfl rfl ?_
      refine sp_goto rfl ?_
      exact k
def w_X11_layLasts_2 (SL : Nat) (xs : Nat → Int32) (d : Nat) (p s q : Nat) (Q : Option Value → mm_H → Prop) (v1 : Int32) (v2 : Int32) (v3 : Int32) (I : Nat → Nat → Int32) (J : Nat → Nat → Int64) : Prop := mm_w SL xs (mm_s SL xs (d + 1)) mm_am kX11_layLasts 0 0 none Q 2 [some (.ref 65), some (.int v1), some (.int v2), some (.int v3)] [] (hp p s q I J) 0 0
def w_X11_layLasts_23 (SL : Nat) (xs : Nat → Int32) (d : Nat) (p s q : Nat) (Q : Option Value → mm_H → Prop) (v1 : Int32) (v2 : Int32) (v3 : Int32) (I : Nat → Nat → Int32) (J : Nat → Nat → Int64) : Prop := mm_w SL xs (mm_s SL xs (d + 1)) mm_am kX11_layLasts 0 0 none Q 23 [some (.ref 65), some (.int v1), some (.int v2), some (.int v3)] [] (hp p s q I J) 0 0
theorem sg_X11_layLasts {SL : Nat} {xs : Nat → Int32} {d : Nat} {p s q : Nat} {Q : Option Value → mm_H → Prop} {a0 : Int32} {a1 : Int32} {I : Nat → Nat → Int32} {J : Nat → Nat → Int64}  (k : w_X11_layLasts_2 SL xs d p s q Q a0 a1 (Int32.ofInt 0) I J) : mm_s SL xs (d + 2) 250 [.ref 65, .int a0, .int a1] (hp p s q I J) Q := by
  refine e_X11_layLasts rfl ?_
  refine hs_L (L2 := [some (.ref 65), some (.int a0), some (.int a1), none]) rfl ?_
  refine sp_iconst 1 rfl rfl ?_
  refine hs_istore_n 2 (L2 := [some (.ref 65), some (.int a0), some (.int a1), some (.int (Int32.ofInt 0))]) rfl rfl rfl rfl ?_
  exact k
theorem sg_X11_layLasts_2 {SL : Nat} {xs : Nat → Int32} {d : Nat} {p s q : Nat} {Q : Option Value → mm_H → Prop} {v1 : Int32} {v2 : Int32} {v3 : Int32} {I : Nat → Nat → Int32} {J : Nat → Nat → Int64}  (k : (((Int32.ofInt 60) ≤ v3 → w_X11_layLasts_23 SL xs d p s q Q v1 v2 (Int32.ofInt 1) I J) ∧ (¬ ((Int32.ofInt 60) ≤ v3) → (vp_in v3 60 ∧ w_X11_layLasts_2 SL xs d p s q Q v1 v2 (v3 + Int32.ofInt 1) (mm_u I 99 ((v3).toNatClampNeg) (Int32.ofInt 0)) J)))) : w_X11_layLasts_2 SL xs d p s q Q v1 v2 v3 I J := by
  unfold w_X11_layLasts_2
  refine sp_iload_n 3 rfl rfl rfl ?_
  refine sp_bipush 5 rfl rfl ?_
  refine sp_I (y := Int32.ofInt 60) rfl ?_
  refine sp_ic_ge 8 rfl rfl (fun q_ => ?_) (fun q_ => ?_)
  · have k := k.1 q_
    refine sp_iconst 22 rfl rfl ?_
    refine hs_istore_n 23 (L2 := [some (.ref 65), some (.int v1), some (.int v2), some (.int (Int32.ofInt 1))]) rfl rfl rfl rfl ?_
    exact k
  · have k := k.2 q_
    refine sp_aload_n 9 rfl rfl rfl ?_
    refine hq_getR 12 rfl rfl rfl rfl ?_
    refine sp_iload_n 13 rfl rfl rfl ?_
    refine sp_iconst 14 rfl rfl ?_
    have n1_ := k.1
    have k := k.2
    refine hq_iast 15 rfl rfl n1_ rfl ?_
    refine hs_iinc 18 (L2 := [some (.ref 65), some (.int v1), some (.int v2), some (.int (v3 + Int32.ofInt 1))]) rfl rfl rfl rfl rfl ?_
    refine sp_goto rfl ?_
    exact k
theorem sg_X11_layLasts_23 {SL : Nat} {xs : Nat → Int32} {d : Nat} {p s q : Nat} {Q : Option Value → mm_H → Prop} {v1 : Int32} {v2 : Int32} {v3 : Int32} {I : Nat → Nat → Int32} {J : Nat → Nat → Int64}  (k : ((v2 < v3 → Q none (hp p s q I J)) ∧ (¬ (v2 < v3) → (mm_s SL xs (d + 1) 248 [.int v1, .int v3] (hp p s q I J) (fun r_ h_ => ∃ x1 I1 J1, r_ = some (.int x1) ∧ h_ = hp p s q I1 J1 ∧ (vp_in x1 60 ∧ w_X11_layLasts_23 SL xs d p s q Q v1 v2 (v3 + Int32.ofInt 1) (mm_u I1 99 ((x1).toNatClampNeg) ((I1 99 ((x1).toNatClampNeg)) + (Int32.ofInt 1))) J1)))))) : w_X11_layLasts_23 SL xs d p s q Q v1 v2 v3 I J := by
  unfold w_X11_layLasts_23
  refine sp_iload_n 24 rfl rfl rfl ?_
  refine sp_iload_n 25 rfl rfl rfl ?_
  refine sp_ic_gt 28 rfl rfl (fun q_ => ?_) (fun q_ => ?_)
  · have k := k.1 q_
    exact st_vret rfl rfl (Nat.le_refl _) (Nat.le_refl _) k
  · have k := k.2 q_
    refine sp_aload_n 29 rfl rfl rfl ?_
    refine hq_getR 32 rfl rfl rfl rfl ?_
    refine sp_iload_n 33 rfl rfl rfl ?_
    refine sp_iload_n 34 rfl rfl rfl ?_
    refine sc_S 37 rfl rfl rfl rfl (Nat.le_refl _) (Nat.le_refl _) rfl ?_
    refine mm_s_mono _ _ _ _ _ _ ?_ k
    rintro r_ h_ ⟨x1, I1, J1, rfl, rfl, k⟩
    refine hs_S (st2 := [.int x1, .ref 99]) rfl ?_
    refine sp_dup2 38 rfl rfl rfl rfl ?_
    have n2_ := k.1
    have k := k.2
    refine hq_iald 39 rfl rfl n2_ rfl ?_
    refine sp_iconst 40 rfl rfl ?_
    refine sp_iadd 41 rfl rfl ?_
    refine hq_iast 42 rfl rfl n2_ rfl ?_
    refine hs_iinc 45 (L2 := [some (.ref 65), some (.int v1), some (.int v2), some (.int (v3 + Int32.ofInt 1))]) rfl rfl rfl rfl rfl ?_
    refine sp_goto rfl ?_
    exact k
def w_X11_ever_14 (SL : Nat) (xs : Nat → Int32) (d : Nat) (p s q : Nat) (Q : Option Value → mm_H → Prop) (v1 : Int32) (v2 : Int64) (v4 : Int32) (I : Nat → Nat → Int32) (J : Nat → Nat → Int64) : Prop := mm_w SL xs (mm_s SL xs (d + 1)) mm_am kX11_ever 0 0 (some .int) Q 14 [some (.ref 65), some (.int v1), some (.long v2), none, some (.int v4)] [] (hp p s q I J) 0 0
theorem sg_X11_ever {SL : Nat} {xs : Nat → Int32} {d : Nat} {p s q : Nat} {Q : Option Value → mm_H → Prop} {a0 : Int32} {I : Nat → Nat → Int32} {J : Nat → Nat → Int64}  (k : (((sx_X11_isSmall a0) = Int32.ofInt 0 → Q (some (.int (Int32.ofInt (-1)))) (hp p s q I J)) ∧ (¬ ((sx_X11_isSmall a0) = Int32.ofInt 0) → w_X11_ever_14 SL xs d p s q Q a0 (Int64.ofInt 0) (Int32.ofInt 1) I J))) : mm_s SL xs (d + 2) 253 [.ref 65, .int a0] (hp p s q I J) Q := by
  refine e_X11_ever rfl ?_
  refine hs_L (L2 := [some (.ref 65), some (.int a0), none, none, none]) rfl ?_
  refine sp_iload_n 1 rfl rfl rfl ?_
  refine sc_S 4 rfl rfl rfl rfl (Nat.le_refl _) (Nat.le_refl _) rfl ?_
  refine cx_X11_isSmall ?_
  refine hs_S (st2 := [.int (sx_X11_isSmall a0)]) rfl ?_
  refine sp_if_ne 7 rfl rfl (fun q_ => ?_) (fun q_ => ?_)
  · have k := k.2 q_
    refine sp_lconst 10 rfl rfl ?_
    refine sp_J (y := Int64.ofInt 0) rfl ?_
    refine hs_lstore_n 11 (L2 := [some (.ref 65), some (.int a0), some (.long (Int64.ofInt 0)), none, none]) rfl rfl rfl rfl ?_
    refine sp_iconst 12 rfl rfl ?_
    refine hs_istore 14 (L2 := [some (.ref 65), some (.int a0), some (.long (Int64.ofInt 0)), none, some (.int (Int32.ofInt 1))]) rfl rfl rfl rfl ?_
    exact k
  · have k := k.1 q_
    refine sp_iconst 8 rfl rfl ?_
    exact st_iret rfl rfl (Nat.le_refl _) (Nat.le_refl _) k
theorem sg_X11_ever_14 {SL : Nat} {xs : Nat → Int32} {d : Nat} {p s q : Nat} {Q : Option Value → mm_H → Prop} {v1 : Int32} {v2 : Int64} {v4 : Int32} {I : Nat → Nat → Int32} {J : Nat → Nat → Int64}  (k : (((Int32.ofInt 3000) < v4 → Q (some (.int (Int32.ofInt (-1)))) (hp p s q I J)) ∧ (¬ ((Int32.ofInt 3000) < v4) → (mm_s SL xs (d + 1) 248 [.int v1, .int v4] (hp p s q I J) (fun r_ h_ => ∃ x1 I1 J1, r_ = some (.int x1) ∧ h_ = hp p s q I1 J1 ∧ (mm_s SL xs (d + 1) 239 [.long (v2 ||| ((Int64.ofInt 1) <<< ((x1).toInt64 &&& 63)))] (hp p s q I1 J1) (fun r_ h_ => ∃ x2 I2 J2, r_ = some (.int x2) ∧ h_ = hp p s q I2 J2 ∧ ((x2 = v1 → Q (some (.int v4)) (hp p s q I2 J2)) ∧ (¬ (x2 = v1) → w_X11_ever_14 SL xs d p s q Q v1 (v2 ||| ((Int64.ofInt 1) <<< ((x1).toInt64 &&& 63))) (v4 + Int32.ofInt 1) I2 J2))))))))) : w_X11_ever_14 SL xs d p s q Q v1 v2 v4 I J := by
  unfold w_X11_ever_14
  refine sp_iload 16 rfl rfl rfl ?_
  refine sp_sipush 19 rfl rfl ?_
  refine sp_I (y := Int32.ofInt 3000) rfl ?_
  refine sp_ic_gt 22 rfl rfl (fun q_ => ?_) (fun q_ => ?_)
  · have k := k.1 q_
    refine sp_iconst 51 rfl rfl ?_
    exact st_iret rfl rfl (Nat.le_refl _) (Nat.le_refl _) k
  · have k := k.2 q_
    refine sp_lload_n 23 rfl rfl rfl ?_
    refine sp_lconst 24 rfl rfl ?_
    refine sp_J (y := Int64.ofInt 1) rfl ?_
    refine sp_iload_n 25 rfl rfl rfl ?_
    refine sp_iload 27 rfl rfl rfl ?_
    refine sc_S 30 rfl rfl rfl rfl (Nat.le_refl _) (Nat.le_refl _) rfl ?_
    refine mm_s_mono _ _ _ _ _ _ ?_ k
    rintro r_ h_ ⟨x1, I1, J1, rfl, rfl, k⟩
    refine hs_S (st2 := [.int x1, .long (Int64.ofInt 1), .long v2]) rfl ?_
    refine sp_lshl 31 rfl rfl ?_
    refine sp_lor 32 rfl rfl ?_
    refine hs_lstore_n 33 (L2 := [some (.ref 65), some (.int v1), some (.long (v2 ||| ((Int64.ofInt 1) <<< ((x1).toInt64 &&& 63)))), none, some (.int v4)]) rfl rfl rfl rfl ?_
    refine sp_lload_n 34 rfl rfl rfl ?_
    refine sc_S 37 rfl rfl rfl rfl (Nat.le_refl _) (Nat.le_refl _) rfl ?_
    refine mm_s_mono _ _ _ _ _ _ ?_ k
    rintro r_ h_ ⟨x2, I2, J2, rfl, rfl, k⟩
    refine hs_S (st2 := [.int x2]) rfl ?_
    refine sp_iload_n 38 rfl rfl rfl ?_
    refine sp_ic_ne 41 rfl rfl (fun q_ => ?_) (fun q_ => ?_)
    · have k := k.2 q_
      refine hs_iinc 47 (L2 := [some (.ref 65), some (.int v1), some (.long (v2 ||| ((Int64.ofInt 1) <<< ((x1).toInt64 &&& 63)))), none, some (.int (v4 + Int32.ofInt 1))]) rfl rfl rfl rfl rfl ?_
      refine sp_goto rfl ?_
      exact k
    · have k := k.1 q_
      refine sp_iload 43 rfl rfl rfl ?_
      exact st_iret rfl rfl (Nat.le_refl _) (Nat.le_refl _) k
def w_X11_weightOf_5 (SL : Nat) (xs : Nat → Int32) (d : Nat) (p s q : Nat) (Q : Option Value → mm_H → Prop) (v1 : Int32) (v2 : Int32) (v3 : Int32) (v4 : Int32) (I : Nat → Nat → Int32) (J : Nat → Nat → Int64) : Prop := mm_w SL xs (mm_s SL xs (d + 1)) mm_am kX11_weightOf 0 0 (some .int) Q 5 [some (.ref 65), some (.int v1), some (.int v2), some (.int v3), some (.int v4)] [] (hp p s q I J) 0 0
theorem sg_X11_weightOf {SL : Nat} {xs : Nat → Int32} {d : Nat} {p s q : Nat} {Q : Option Value → mm_H → Prop} {a0 : Int32} {a1 : Int32} {I : Nat → Nat → Int32} {J : Nat → Nat → Int64}  (k : w_X11_weightOf_5 SL xs d p s q Q a0 a1 (Int32.ofInt 0) (Int32.ofInt 0) I J) : mm_s SL xs (d + 2) 255 [.ref 65, .int a0, .int a1] (hp p s q I J) Q := by
  refine e_X11_weightOf rfl ?_
  refine hs_L (L2 := [some (.ref 65), some (.int a0), some (.int a1), none, none]) rfl ?_
  refine sp_iconst 1 rfl rfl ?_
  refine hs_istore_n 2 (L2 := [some (.ref 65), some (.int a0), some (.int a1), some (.int (Int32.ofInt 0)), none]) rfl rfl rfl rfl ?_
  refine sp_iconst 3 rfl rfl ?_
  refine hs_istore 5 (L2 := [some (.ref 65), some (.int a0), some (.int a1), some (.int (Int32.ofInt 0)), some (.int (Int32.ofInt 0))]) rfl rfl rfl rfl ?_
  exact k
theorem sg_X11_weightOf_5 {SL : Nat} {xs : Nat → Int32} {d : Nat} {p s q : Nat} {Q : Option Value → mm_H → Prop} {v1 : Int32} {v2 : Int32} {v3 : Int32} {v4 : Int32} {I : Nat → Nat → Int32} {J : Nat → Nat → Int64}  (k : (((I 65 44) ≤ v4 → Q (some (.int v3)) (hp p s q I J)) ∧ (¬ ((I 65 44) ≤ v4) → (vp_in v4 12 ∧ (mm_s SL xs (d + 1) 248 [.int v1, .int (I 83 ((v4).toNatClampNeg))] (hp p s q I J) (fun r_ h_ => ∃ x1 I1 J1, r_ = some (.int x1) ∧ h_ = hp p s q I1 J1 ∧ ((x1 = v2 → w_X11_weightOf_5 SL xs d p s q Q v1 v2 (v3 + (I1 84 ((v4).toNatClampNeg))) (v4 + Int32.ofInt 1) I1 J1) ∧ (¬ (x1 = v2) → w_X11_weightOf_5 SL xs d p s q Q v1 v2 (v3 + (Int32.ofInt 0)) (v4 + Int32.ofInt 1) I1 J1)))))))) : w_X11_weightOf_5 SL xs d p s q Q v1 v2 v3 v4 I J := by
  unfold w_X11_weightOf_5
  refine sp_iload 7 rfl rfl rfl ?_
  refine sp_aload_n 8 rfl rfl rfl ?_
  refine hq_getI 11 rfl rfl rfl ?_
  refine sp_ic_ge 14 rfl rfl (fun q_ => ?_) (fun q_ => ?_)
  · have k := k.1 q_
    refine sp_iload_n 50 rfl rfl rfl ?_
    exact st_iret rfl rfl (Nat.le_refl _) (Nat.le_refl _) k
  · have k := k.2 q_
    refine sp_iload_n 15 rfl rfl rfl ?_
    refine sp_iload_n 16 rfl rfl rfl ?_
    refine sp_aload_n 17 rfl rfl rfl ?_
    refine hq_getR 20 rfl rfl rfl rfl ?_
    refine sp_iload 22 rfl rfl rfl ?_
    have n1_ := k.1
    have k := k.2
    refine hq_iald 23 rfl rfl n1_ rfl ?_
    refine sc_S 26 rfl rfl rfl rfl (Nat.le_refl _) (Nat.le_refl _) rfl ?_
    refine mm_s_mono _ _ _ _ _ _ ?_ k
    rintro r_ h_ ⟨x1, I1, J1, rfl, rfl, k⟩
    refine hs_S (st2 := [.int x1, .int v3]) rfl ?_
    refine sp_iload_n 27 rfl rfl rfl ?_
    refine sp_ic_ne 30 rfl rfl (fun q_ => ?_) (fun q_ => ?_)
    · have k := k.2 q_
      refine sp_iconst 41 rfl rfl ?_
      refine sp_iadd 42 rfl rfl ?_
      refine hs_istore_n 43 (L2 := [some (.ref 65), some (.int v1), some (.int v2), some (.int (v3 + (Int32.ofInt 0))), some (.int v4)]) rfl rfl rfl rfl ?_
      refine hs_iinc 46 (L2 := [some (.ref 65), some (.int v1), some (.int v2), some (.int (v3 + (Int32.ofInt 0))), some (.int (v4 + Int32.ofInt 1))]) rfl rfl rfl rfl rfl ?_
      refine sp_goto rfl ?_
      exact k
    · have k := k.1 q_
      refine sp_aload_n 31 rfl rfl rfl ?_
      refine hq_getR 34 rfl rfl rfl rfl ?_
      refine sp_iload 36 rfl rfl rfl ?_
      refine hq_iald 37 rfl rfl n1_ rfl ?_
      refine sp_goto rfl ?_
      refine sp_iadd 42 rfl rfl ?_
      refine hs_istore_n 43 (L2 := [some (.ref 65), some (.int v1), some (.int v2), some (.int (v3 + (I1 84 ((v4).toNatClampNeg)))), some (.int v4)]) rfl rfl rfl rfl ?_
      refine hs_iinc 46 (L2 := [some (.ref 65), some (.int v1), some (.int v2), some (.int (v3 + (I1 84 ((v4).toNatClampNeg)))), some (.int (v4 + Int32.ofInt 1))]) rfl rfl rfl rfl rfl ?_
      refine sp_goto rfl ?_
      exact k
theorem sg_X11_partOf {SL : Nat} {xs : Nat → Int32} {d : Nat} {p s q : Nat} {Q : Option Value → mm_H → Prop} {a0 : Int32} {a1 : Int32} {a2 : Int32} {I : Nat → Nat → Int32} {J : Nat → Nat → Int64}  (k : (mm_s SL xs (d + 1) 243 [.long ((a1).toInt64), .long ((a0).toInt64)] (hp p s q I J) (fun r_ h_ => ∃ x1 I1 J1, r_ = some (.long x1) ∧ h_ = hp p s q I1 J1 ∧ ((a2 = Int32.ofInt 0 → (¬ ((x1).toInt32) = 0 ∧ Q (some (.int (a0 / ((x1).toInt32)))) (hp p s q I1 J1))) ∧ (¬ (a2 = Int32.ofInt 0) → (¬ ((x1).toInt32) = 0 ∧ Q (some (.int (a1 / ((x1).toInt32)))) (hp p s q I1 J1))))))) : mm_s SL xs (d + 2) 256 [.int a0, .int a1, .int a2] (hp p s q I J) Q := by
  refine e_X11_partOf rfl ?_
  refine hs_L (L2 := [some (.int a0), some (.int a1), some (.int a2), none]) rfl ?_
  refine sp_iload_n 1 rfl rfl rfl ?_
  refine sp_i2l 2 rfl rfl ?_
  refine sp_iload_n 3 rfl rfl rfl ?_
  refine sp_i2l 4 rfl rfl ?_
  refine sc_S 7 rfl rfl rfl rfl (Nat.le_refl _) (Nat.le_refl _) rfl ?_
  refine mm_s_mono _ _ _ _ _ _ ?_ k
  rintro r_ h_ ⟨x1, I1, J1, rfl, rfl, k⟩
  refine hs_S (st2 := [.long x1]) rfl ?_
  refine sp_l2i 8 rfl rfl ?_
  refine hs_istore_n 9 (L2 := [some (.int a0), some (.int a1), some (.int a2), some (.int ((x1).toInt32))]) rfl rfl rfl rfl ?_
  refine sp_iload_n 10 rfl rfl rfl ?_
  refine sp_if_ne 13 rfl rfl (fun q_ => ?_) (fun q_ => ?_)
  · have k := k.2 q_
    refine sp_iload_n 20 rfl rfl rfl ?_
    refine sp_iload_n 21 rfl rfl rfl ?_
    have n1_ := k.1
    have k := k.2
    refine sp_idiv 22 rfl n1_ rfl ?_
    exact st_iret rfl rfl (Nat.le_refl _) (Nat.le_refl _) k
  · have k := k.1 q_
    refine sp_iload_n 14 rfl rfl rfl ?_
    refine sp_iload_n 15 rfl rfl rfl ?_
    have n2_ := k.1
    have k := k.2
    refine sp_idiv 16 rfl n2_ rfl ?_
    refine sp_goto rfl ?_
    exact st_iret rfl rfl (Nat.le_refl _) (Nat.le_refl _) k
theorem sg_X11_sight {SL : Nat} {xs : Nat → Int32} {d : Nat} {p s q : Nat} {Q : Option Value → mm_H → Prop} {a0 : Int32} {a1 : Int32} {a2 : Int32} {I : Nat → Nat → Int32} {J : Nat → Nat → Int64}  (k : (((sx_X11_isSmall a0) = Int32.ofInt 0 → Q (some (.int (Int32.ofInt (-1)))) (hp p s q I J)) ∧ (¬ ((sx_X11_isSmall a0) = Int32.ofInt 0) → ((a1 < (Int32.ofInt 1) → Q (some (.int (Int32.ofInt (-1)))) (hp p s q I J)) ∧ (¬ (a1 < (Int32.ofInt 1)) → ((a0 < a1 → Q (some (.int (Int32.ofInt (-1)))) (hp p s q I J)) ∧ (¬ (a0 < a1) → ((a2 < Int32.ofInt 0 → Q (some (.int (Int32.ofInt (-1)))) (hp p s q I J)) ∧ (¬ (a2 < Int32.ofInt 0) → ((a0 ≤ a2 → Q (some (.int (Int32.ofInt (-1)))) (hp p s q I J)) ∧ (¬ (a0 ≤ a2) → (((I 65 88) = (Int32.ofInt 40) → Q (some (.int (Int32.ofInt (-1)))) (hp p s q I J)) ∧ (¬ ((I 65 88) = (Int32.ofInt 40)) → (vp_in (I 65 88) 40 ∧ Q (some (.int (((I 65 88) + (Int32.ofInt 1)) - (Int32.ofInt 1)))) (hp p s q (mm_u (mm_u (mm_u (mm_u (mm_u (mm_u I 100 (((I 65 88)).toNatClampNeg) a0) 101 (((I 65 88)).toNatClampNeg) a1) 102 (((I 65 88)).toNatClampNeg) a2) 103 (((I 65 88)).toNatClampNeg) (I 65 89)) 104 (((I 65 88)).toNatClampNeg) (Int32.ofInt (-1))) 65 88 ((I 65 88) + (Int32.ofInt 1))) J))))))))))))))) : mm_s SL xs (d + 2) 262 [.ref 65, .int a0, .int a1, .int a2] (hp p s q I J) Q := by
  refine e_X11_sight rfl ?_
  refine hs_L (L2 := [some (.ref 65), some (.int a0), some (.int a1), some (.int a2)]) rfl ?_
  refine sp_iload_n 1 rfl rfl rfl ?_
  refine sc_S 4 rfl rfl rfl rfl (Nat.le_refl _) (Nat.le_refl _) rfl ?_
  refine cx_X11_isSmall ?_
  refine hs_S (st2 := [.int (sx_X11_isSmall a0)]) rfl ?_
  refine sp_if_eq 7 rfl rfl (fun q_ => ?_) (fun q_ => ?_)
  · have k := k.1 q_
    refine sp_iconst 36 rfl rfl ?_
    exact st_iret rfl rfl (Nat.le_refl _) (Nat.le_refl _) k
  · have k := k.2 q_
    refine sp_iload_n 8 rfl rfl rfl ?_
    refine sp_iconst 9 rfl rfl ?_
    refine sp_ic_lt 12 rfl rfl (fun q_ => ?_) (fun q_ => ?_)
    · have k := k.1 q_
      refine sp_iconst 36 rfl rfl ?_
      exact st_iret rfl rfl (Nat.le_refl _) (Nat.le_refl _) k
    · have k := k.2 q_
      refine sp_iload_n 13 rfl rfl rfl ?_
      refine sp_iload_n 14 rfl rfl rfl ?_
      refine sp_ic_gt 17 rfl rfl (fun q_ => ?_) (fun q_ => ?_)
      · have k := k.1 q_
        refine sp_iconst 36 rfl rfl ?_
        exact st_iret rfl rfl (Nat.le_refl _) (Nat.le_refl _) k
      · have k := k.2 q_
        refine sp_iload_n 18 rfl rfl rfl ?_
        refine sp_if_lt 21 rfl rfl (fun q_ => ?_) (fun q_ => ?_)
        · have k := k.1 q_
          refine sp_iconst 36 rfl rfl ?_
          exact st_iret rfl rfl (Nat.le_refl _) (Nat.le_refl _) k
        · have k := k.2 q_
          refine sp_iload_n 22 rfl rfl rfl ?_
          refine sp_iload_n 23 rfl rfl rfl ?_
          refine sp_ic_ge 26 rfl rfl (fun q_ => ?_) (fun q_ => ?_)
          · have k := k.1 q_
            refine sp_iconst 36 rfl rfl ?_
            exact st_iret rfl rfl (Nat.le_refl _) (Nat.le_refl _) k
          · have k := k.2 q_
            refine sp_aload_n 27 rfl rfl rfl ?_
            refine hq_getI 30 rfl rfl rfl ?_
            refine sp_bipush 32 rfl rfl ?_
            refine sp_I (y := Int32.ofInt 40) rfl ?_
            refine sp_ic_ne 35 rfl rfl (fun q_ => ?_) (fun q_ => ?_)
            · have k := k.2 q_
              refine sp_aload_n 38 rfl rfl rfl ?_
              refine hq_getR 41 rfl rfl rfl rfl ?_
              refine sp_aload_n 42 rfl rfl rfl ?_
              refine hq_getI 45 rfl rfl rfl ?_
              refine sp_iload_n 46 rfl rfl rfl ?_
              have n1_ := k.1
              have k := k.2
              refine hq_iast 47 rfl rfl n1_ rfl ?_
              refine sp_aload_n 48 rfl rfl rfl ?_
              refine hq_getR 51 rfl rfl rfl rfl ?_
              refine sp_aload_n 52 rfl rfl rfl ?_
              refine hq_getI 55 rfl rfl rfl ?_
              refine sp_I (y := (I 65 88)) (by simp [mm_u]) ?_
              refine sp_iload_n 56 rfl rfl rfl ?_
              refine hq_iast 57 rfl rfl n1_ rfl ?_
              refine sp_aload_n 58 rfl rfl rfl ?_
              refine hq_getR 61 rfl rfl rfl rfl ?_
              refine sp_aload_n 62 rfl rfl rfl ?_
              refine hq_getI 65 rfl rfl rfl ?_
              refine sp_I (y := (I 65 88)) (by simp [mm_u]) ?_
              refine sp_iload_n 66 rfl rfl rfl ?_
              refine hq_iast 67 rfl rfl n1_ rfl ?_
              refine sp_aload_n 68 rfl rfl rfl ?_
              refine hq_getR 71 rfl rfl rfl rfl ?_
              refine sp_aload_n 72 rfl rfl rfl ?_
              refine hq_getI 75 rfl rfl rfl ?_
              refine sp_I (y := (I 65 88)) (by simp [mm_u]) ?_
              refine sp_aload_n 76 rfl rfl rfl ?_
              refine hq_getI 79 rfl rfl rfl ?_
              refine sp_I (y := (I 65 89)) (by simp [mm_u]) ?_
              refine hq_iast 80 rfl rfl n1_ rfl ?_
              refine sp_aload_n 81 rfl rfl rfl ?_
              refine hq_getR 84 rfl rfl rfl rfl ?_
              refine sp_aload_n 85 rfl rfl rfl ?_
              refine hq_getI 88 rfl rfl rfl ?_
              refine sp_I (y := (I 65 88)) (by simp [mm_u]) ?_
              refine sp_iconst 89 rfl rfl ?_
              refine hq_iast 90 rfl rfl n1_ rfl ?_
              refine sp_aload_n 91 rfl rfl rfl ?_
              refine sp_dup 92 rfl rfl rfl ?_
              refine hq_getI 95 rfl rfl rfl ?_
              refine sp_I (y := (I 65 88)) (by simp [mm_u]) ?_
              refine sp_iconst 96 rfl rfl ?_
              refine sp_iadd 97 rfl rfl ?_
              refine hq_putI 100 rfl rfl rfl ?_
              refine sp_aload_n 101 rfl rfl rfl ?_
              refine hq_getI 104 rfl rfl rfl ?_
              refine sp_I (y := ((I 65 88) + (Int32.ofInt 1))) (by simp [mm_u]) ?_
              refine sp_iconst 105 rfl rfl ?_
              refine sp_isub 106 rfl rfl ?_
              exact st_iret rfl rfl (Nat.le_refl _) (Nat.le_refl _) k
            · have k := k.1 q_
              refine sp_iconst 36 rfl rfl ?_
              exact st_iret rfl rfl (Nat.le_refl _) (Nat.le_refl _) k
def w_X11_doesFit_5 (SL : Nat) (xs : Nat → Int32) (d : Nat) (p s q : Nat) (Q : Option Value → mm_H → Prop) (v1 : Int32) (v2 : Int32) (v3 : Int32) (v4 : Int32) (I : Nat → Nat → Int32) (J : Nat → Nat → Int64) : Prop := mm_w SL xs (mm_s SL xs (d + 1)) mm_am kX11_doesFit 0 0 (some .boolean) Q 5 [some (.ref 65), some (.int v1), some (.int v2), some (.int v3), some (.int v4)] [] (hp p s q I J) 0 0
theorem sg_X11_doesFit {SL : Nat} {xs : Nat → Int32} {d : Nat} {p s q : Nat} {Q : Option Value → mm_H → Prop} {a0 : Int32} {a1 : Int32} {I : Nat → Nat → Int32} {J : Nat → Nat → Int64}  (k : w_X11_doesFit_5 SL xs d p s q Q a0 a1 (Int32.ofInt 1) (Int32.ofInt 0) I J) : mm_s SL xs (d + 2) 266 [.ref 65, .int a0, .int a1] (hp p s q I J) Q := by
  refine e_X11_doesFit rfl ?_
  refine hs_L (L2 := [some (.ref 65), some (.int a0), some (.int a1), none, none]) rfl ?_
  refine sp_iconst 1 rfl rfl ?_
  refine hs_istore_n 2 (L2 := [some (.ref 65), some (.int a0), some (.int a1), some (.int (Int32.ofInt 1)), none]) rfl rfl rfl rfl ?_
  refine sp_iconst 3 rfl rfl ?_
  refine hs_istore 5 (L2 := [some (.ref 65), some (.int a0), some (.int a1), some (.int (Int32.ofInt 1)), some (.int (Int32.ofInt 0))]) rfl rfl rfl rfl ?_
  exact k
theorem sg_X11_doesFit_5 {SL : Nat} {xs : Nat → Int32} {d : Nat} {p s q : Nat} {Q : Option Value → mm_H → Prop} {v1 : Int32} {v2 : Int32} {v3 : Int32} {v4 : Int32} {I : Nat → Nat → Int32} {J : Nat → Nat → Int64}  (k : (((I 65 88) ≤ v4 → ((v3 = 0 ∨ v3 = 1) ∧ Q (some (.int v3)) (hp p s q I J))) ∧ (¬ ((I 65 88) ≤ v4) → ((v3 = Int32.ofInt 0 → ((v3 = 0 ∨ v3 = 1) ∧ Q (some (.int v3)) (hp p s q I J))) ∧ (¬ (v3 = Int32.ofInt 0) → (mm_s SL xs (d + 1) 265 [.ref 65, .int v4, .int v2] (hp p s q I J) (fun r_ h_ => ∃ x1 I1 J1, r_ = some (.int x1) ∧ h_ = hp p s q I1 J1 ∧ ((x1 = Int32.ofInt 0 → w_X11_doesFit_5 SL xs d p s q Q v1 v2 (Int32.ofInt 1) (v4 + Int32.ofInt 1) I1 J1) ∧ (¬ (x1 = Int32.ofInt 0) → (vp_in v4 40 ∧ (mm_s SL xs (d + 1) 233 [.long (((I1 100 ((v4).toNatClampNeg))).toInt64), .int v1, .long (((I1 101 ((v4).toNatClampNeg))).toInt64)] (hp p s q I1 J1) (fun r_ h_ => ∃ x2 I2 J2, r_ = some (.long x2) ∧ h_ = hp p s q I2 J2 ∧ ((x2 = (((I2 102 ((v4).toNatClampNeg))).toInt64) → w_X11_doesFit_5 SL xs d p s q Q v1 v2 (Int32.ofInt 1) (v4 + Int32.ofInt 1) I2 J2) ∧ (¬ (x2 = (((I2 102 ((v4).toNatClampNeg))).toInt64)) → w_X11_doesFit_5 SL xs d p s q Q v1 v2 (Int32.ofInt 0) (v4 + Int32.ofInt 1) I2 J2)))))))))))))) : w_X11_doesFit_5 SL xs d p s q Q v1 v2 v3 v4 I J := by
  unfold w_X11_doesFit_5
  refine sp_iload 7 rfl rfl rfl ?_
  refine sp_aload_n 8 rfl rfl rfl ?_
  refine hq_getI 11 rfl rfl rfl ?_
  refine sp_ic_ge 14 rfl rfl (fun q_ => ?_) (fun q_ => ?_)
  · have k := k.1 q_
    refine sp_iload_n 73 rfl rfl rfl ?_
    exact st_zret rfl rfl k.1 (Nat.le_refl _) (Nat.le_refl _) k.2
  · have k := k.2 q_
    refine sp_iload_n 15 rfl rfl rfl ?_
    refine sp_if_eq 18 rfl rfl (fun q_ => ?_) (fun q_ => ?_)
    · have k := k.1 q_
      refine sp_iload_n 73 rfl rfl rfl ?_
      exact st_zret rfl rfl k.1 (Nat.le_refl _) (Nat.le_refl _) k.2
    · have k := k.2 q_
      refine sp_aload_n 19 rfl rfl rfl ?_
      refine sp_iload 21 rfl rfl rfl ?_
      refine sp_iload_n 22 rfl rfl rfl ?_
      refine sc_V 25 rfl rfl rfl rfl rfl (Nat.le_refl _) (Nat.le_refl _) rfl ?_
      refine mm_s_mono _ _ _ _ _ _ ?_ k
      rintro r_ h_ ⟨x1, I1, J1, rfl, rfl, k⟩
      refine hs_S (st2 := [.int x1]) rfl ?_
      refine sp_if_eq 28 rfl rfl (fun q_ => ?_) (fun q_ => ?_)
      · have k := k.1 q_
        refine sp_iconst 61 rfl rfl ?_
        refine sp_goto rfl ?_
        refine hs_istore_n 66 (L2 := [some (.ref 65), some (.int v1), some (.int v2), some (.int (Int32.ofInt 1)), some (.int v4)]) rfl rfl rfl rfl ?_
        refine hs_iinc 69 (L2 := [some (.ref 65), some (.int v1), some (.int v2), some (.int (Int32.ofInt 1)), some (.int (v4 + Int32.ofInt 1))]) rfl rfl rfl rfl rfl ?_
        refine sp_goto rfl ?_
        exact k
      · have k := k.2 q_
        refine sp_aload_n 29 rfl rfl rfl ?_
        refine hq_getR 32 rfl rfl rfl rfl ?_
        refine sp_iload 34 rfl rfl rfl ?_
        have n1_ := k.1
        have k := k.2
        refine hq_iald 35 rfl rfl n1_ rfl ?_
        refine sp_i2l 36 rfl rfl ?_
        refine sp_iload_n 37 rfl rfl rfl ?_
        refine sp_aload_n 38 rfl rfl rfl ?_
        refine hq_getR 41 rfl rfl rfl rfl ?_
        refine sp_iload 43 rfl rfl rfl ?_
        refine hq_iald 44 rfl rfl n1_ rfl ?_
        refine sp_i2l 45 rfl rfl ?_
        refine sc_S 48 rfl rfl rfl rfl (Nat.le_refl _) (Nat.le_refl _) rfl ?_
        refine mm_s_mono _ _ _ _ _ _ ?_ k
        rintro r_ h_ ⟨x2, I2, J2, rfl, rfl, k⟩
        refine hs_S (st2 := [.long x2]) rfl ?_
        refine sp_aload_n 49 rfl rfl rfl ?_
        refine hq_getR 52 rfl rfl rfl rfl ?_
        refine sp_iload 54 rfl rfl rfl ?_
        refine hq_iald 55 rfl rfl n1_ rfl ?_
        refine sp_i2l 56 rfl rfl ?_
        refine sp_lcmp 57 rfl rfl ?_
        refine sp_if_ne 60 rfl rfl (fun q_ => ?_) (fun q_ => ?_)
        · have k := k.2 (fun z_ => q_ ((lg_cmp_eq _ _).mpr z_))
          refine sp_iconst 65 rfl rfl ?_
          refine hs_istore_n 66 (L2 := [some (.ref 65), some (.int v1), some (.int v2), some (.int (Int32.ofInt 0)), some (.int v4)]) rfl rfl rfl rfl ?_
          refine hs_iinc 69 (L2 := [some (.ref 65), some (.int v1), some (.int v2), some (.int (Int32.ofInt 0)), some (.int (v4 + Int32.ofInt 1))]) rfl rfl rfl rfl rfl ?_
          refine sp_goto rfl ?_
          exact k
        · have k := k.1 ((lg_cmp_eq _ _).mp q_)
          refine sp_iconst 61 rfl rfl ?_
          refine sp_goto rfl ?_
          refine hs_istore_n 66 (L2 := [some (.ref 65), some (.int v1), some (.int v2), some (.int (Int32.ofInt 1)), some (.int v4)]) rfl rfl rfl rfl ?_
          refine hs_iinc 69 (L2 := [some (.ref 65), some (.int v1), some (.int v2), some (.int (Int32.ofInt 1)), some (.int (v4 + Int32.ofInt 1))]) rfl rfl rfl rfl rfl ?_
          refine sp_goto rfl ?_
          exact k
def w_X11_greatestPart_5 (SL : Nat) (xs : Nat → Int32) (d : Nat) (p s q : Nat) (Q : Option Value → mm_H → Prop) (v1 : Int32) (v2 : Int32) (v3 : Int32) (v4 : Int32) (I : Nat → Nat → Int32) (J : Nat → Nat → Int64) : Prop := mm_w SL xs (mm_s SL xs (d + 1)) mm_am kX11_greatestPart 0 0 (some .int) Q 5 [some (.ref 65), some (.int v1), some (.int v2), some (.int v3), some (.int v4), none] [] (hp p s q I J) 0 0
def w_X11_greatestPart_29 (SL : Nat) (xs : Nat → Int32) (d : Nat) (p s q : Nat) (Q : Option Value → mm_H → Prop) (v1 : Int32) (v2 : Int32) (v3 : Int32) (v4 : Int32) (I : Nat → Nat → Int32) (J : Nat → Nat → Int64) : Prop := mm_w SL xs (mm_s SL xs (d + 1)) mm_am kX11_greatestPart 0 0 (some .int) Q 29 [some (.ref 65), some (.int v1), some (.int v2), some (.int v3), some (.int v4), none] [] (hp p s q I J) 0 0
theorem sg_X11_greatestPart {SL : Nat} {xs : Nat → Int32} {d : Nat} {p s q : Nat} {Q : Option Value → mm_H → Prop} {a0 : Int32} {a1 : Int32} {I : Nat → Nat → Int32} {J : Nat → Nat → Int64}  (k : w_X11_greatestPart_5 SL xs d p s q Q a0 a1 (Int32.ofInt 0) (Int32.ofInt 0) I J) : mm_s SL xs (d + 2) 268 [.ref 65, .int a0, .int a1] (hp p s q I J) Q := by
  refine e_X11_greatestPart rfl ?_
  refine hs_L (L2 := [some (.ref 65), some (.int a0), some (.int a1), none, none, none]) rfl ?_
  refine sp_iconst 1 rfl rfl ?_
  refine hs_istore_n 2 (L2 := [some (.ref 65), some (.int a0), some (.int a1), some (.int (Int32.ofInt 0)), none, none]) rfl rfl rfl rfl ?_
  refine sp_iconst 3 rfl rfl ?_
  refine hs_istore 5 (L2 := [some (.ref 65), some (.int a0), some (.int a1), some (.int (Int32.ofInt 0)), some (.int (Int32.ofInt 0)), none]) rfl rfl rfl rfl ?_
  exact k
theorem sg_X11_greatestPart_5 {SL : Nat} {xs : Nat → Int32} {d : Nat} {p s q : Nat} {Q : Option Value → mm_H → Prop} {v1 : Int32} {v2 : Int32} {v3 : Int32} {v4 : Int32} {I : Nat → Nat → Int32} {J : Nat → Nat → Int64}  (k : (((Int32.ofInt 60) ≤ v4 → w_X11_greatestPart_29 SL xs d p s q Q v1 v2 v3 (Int32.ofInt 1) I J) ∧ (¬ ((Int32.ofInt 60) ≤ v4) → (vp_in v4 60 ∧ w_X11_greatestPart_5 SL xs d p s q Q v1 v2 v3 (v4 + Int32.ofInt 1) (mm_u I 106 ((v4).toNatClampNeg) (Int32.ofInt 0)) J)))) : w_X11_greatestPart_5 SL xs d p s q Q v1 v2 v3 v4 I J := by
  unfold w_X11_greatestPart_5
  refine sp_iload 7 rfl rfl rfl ?_
  refine sp_bipush 9 rfl rfl ?_
  refine sp_I (y := Int32.ofInt 60) rfl ?_
  refine sp_ic_ge 12 rfl rfl (fun q_ => ?_) (fun q_ => ?_)
  · have k := k.1 q_
    refine sp_iconst 27 rfl rfl ?_
    refine hs_istore 29 (L2 := [some (.ref 65), some (.int v1), some (.int v2), some (.int v3), some (.int (Int32.ofInt 1)), none]) rfl rfl rfl rfl ?_
    exact k
  · have k := k.2 q_
    refine sp_aload_n 13 rfl rfl rfl ?_
    refine hq_getR 16 rfl rfl rfl rfl ?_
    refine sp_iload 18 rfl rfl rfl ?_
    refine sp_iconst 19 rfl rfl ?_
    have n1_ := k.1
    have k := k.2
    refine hq_iast 20 rfl rfl n1_ rfl ?_
    refine hs_iinc 23 (L2 := [some (.ref 65), some (.int v1), some (.int v2), some (.int v3), some (.int (v4 + Int32.ofInt 1)), none]) rfl rfl rfl rfl rfl ?_
    refine sp_goto rfl ?_
    exact k
theorem sg_X11_greatestPart_29 {SL : Nat} {xs : Nat → Int32} {d : Nat} {p s q : Nat} {Q : Option Value → mm_H → Prop} {v1 : Int32} {v2 : Int32} {v3 : Int32} {v4 : Int32} {I : Nat → Nat → Int32} {J : Nat → Nat → Int64}  (k : (((Int32.ofInt 200) < v4 → Q (some (.int v3)) (hp p s q I J)) ∧ (¬ ((Int32.ofInt 200) < v4) → (vp_in v4 201 ∧ (((I 105 ((v4).toNatClampNeg)) = Int32.ofInt 0 → w_X11_greatestPart_29 SL xs d p s q Q v1 v2 v3 (v4 + Int32.ofInt 1) I J) ∧ (¬ ((I 105 ((v4).toNatClampNeg)) = Int32.ofInt 0) → (mm_s SL xs (d + 1) 233 [.long ((v1).toInt64), .int v4, .long ((v2).toInt64)] (hp p s q I J) (fun r_ h_ => ∃ x1 I1 J1, r_ = some (.long x1) ∧ h_ = hp p s q I1 J1 ∧ (vp_in ((x1).toInt32) 60 ∧ ((((I1 106 ((((x1).toInt32)).toNatClampNeg)) + (Int32.ofInt 1)) ≤ v3 → w_X11_greatestPart_29 SL xs d p s q Q v1 v2 v3 (v4 + Int32.ofInt 1) (mm_u I1 106 ((((x1).toInt32)).toNatClampNeg) ((I1 106 ((((x1).toInt32)).toNatClampNeg)) + (Int32.ofInt 1))) J1) ∧ (¬ (((I1 106 ((((x1).toInt32)).toNatClampNeg)) + (Int32.ofInt 1)) ≤ v3) → w_X11_greatestPart_29 SL xs d p s q Q v1 v2 ((I1 106 ((((x1).toInt32)).toNatClampNeg)) + (Int32.ofInt 1)) (v4 + Int32.ofInt 1) (mm_u I1 106 ((((x1).toInt32)).toNatClampNeg) ((I1 106 ((((x1).toInt32)).toNatClampNeg)) + (Int32.ofInt 1))) J1))))))))))) : w_X11_greatestPart_29 SL xs d p s q Q v1 v2 v3 v4 I J := by
  unfold w_X11_greatestPart_29
  refine sp_iload 31 rfl rfl rfl ?_
  refine sp_sipush 34 rfl rfl ?_
  refine sp_I (y := Int32.ofInt 200) rfl ?_
  refine sp_ic_gt 37 rfl rfl (fun q_ => ?_) (fun q_ => ?_)
  · have k := k.1 q_
    refine sp_iload_n 103 rfl rfl rfl ?_
    exact st_iret rfl rfl (Nat.le_refl _) (Nat.le_refl _) k
  · have k := k.2 q_
    refine sp_aload_n 38 rfl rfl rfl ?_
    refine hq_getR 41 rfl rfl rfl rfl ?_
    refine sp_iload 43 rfl rfl rfl ?_
    have n2_ := k.1
    have k := k.2
    refine hq_zald 44 rfl rfl n2_ rfl ?_
    refine sp_if_ne 47 rfl rfl (fun q_ => ?_) (fun q_ => ?_)
    · have k := k.2 q_
      refine sp_iload_n 51 rfl rfl rfl ?_
      refine sp_i2l 52 rfl rfl ?_
      refine sp_iload 54 rfl rfl rfl ?_
      refine sp_iload_n 55 rfl rfl rfl ?_
      refine sp_i2l 56 rfl rfl ?_
      refine sc_S 59 rfl rfl rfl rfl (Nat.le_refl _) (Nat.le_refl _) rfl ?_
      refine mm_s_mono _ _ _ _ _ _ ?_ k
      rintro r_ h_ ⟨x1, I1, J1, rfl, rfl, k⟩
      refine hs_S (st2 := [.long x1]) rfl ?_
      refine sp_l2i 60 rfl rfl ?_
      refine hs_istore 62 (L2 := [some (.ref 65), some (.int v1), some (.int v2), some (.int v3), some (.int v4), some (.int ((x1).toInt32))]) rfl rfl rfl rfl ?_
      refine sp_aload_n 63 rfl rfl rfl ?_
      refine hq_getR 66 rfl rfl rfl rfl ?_
      refine sp_iload 68 rfl rfl rfl ?_
      refine sp_dup2 69 rfl rfl rfl rfl ?_
      have n3_ := k.1
      have k := k.2
      refine hq_iald 70 rfl rfl n3_ rfl ?_
      refine sp_iconst 71 rfl rfl ?_
      refine sp_iadd 72 rfl rfl ?_
      refine hq_iast 73 rfl rfl n3_ rfl ?_
      refine sp_aload_n 74 rfl rfl rfl ?_
      refine hq_getR 77 rfl rfl rfl rfl ?_
      refine sp_iload 79 rfl rfl rfl ?_
      refine hq_iald 80 rfl rfl n3_ rfl ?_
      refine sp_I (y := ((I1 106 ((((x1).toInt32)).toNatClampNeg)) + (Int32.ofInt 1))) (by simp [mm_u]) ?_
      refine sp_iload_n 81 rfl rfl rfl ?_
      refine sp_ic_le 84 rfl rfl (fun q_ => ?_) (fun q_ => ?_)
      · have k := k.1 q_
        refine sp_iload_n 95 rfl rfl rfl ?_
        refine hs_istore_n 96 (L2 := [some (.ref 65), some (.int v1), some (.int v2), some (.int v3), some (.int v4), some (.int ((x1).toInt32))]) rfl rfl rfl rfl ?_
        refine hs_iinc 99 (L2 := [some (.ref 65), some (.int v1), some (.int v2), some (.int v3), some (.int (v4 + Int32.ofInt 1)), some (.int ((x1).toInt32))]) rfl rfl rfl rfl rfl ?_
        refine sp_goto rfl ?_
        refine st_wk (L1 := [some (.ref 65), some (.int v1), some (.int v2), some (.int v3), some (.int (v4 + Int32.ofInt 1)), none]) ⟨.inr rfl, .inr rfl, .inr rfl, .inr rfl, .inr rfl, .inl rfl, trivial⟩ ?_
        exact k
      · have k := k.2 q_
        refine sp_aload_n 85 rfl rfl rfl ?_
        refine hq_getR 88 rfl rfl rfl rfl ?_
        refine sp_iload 90 rfl rfl rfl ?_
        refine hq_iald 91 rfl rfl n3_ rfl ?_
        refine sp_I (y := ((I1 106 ((((x1).toInt32)).toNatClampNeg)) + (Int32.ofInt 1))) (by simp [mm_u]) ?_
        refine sp_goto rfl ?_
        refine hs_istore_n 96 (L2 := [some (.ref 65), some (.int v1), some (.int v2), some (.int ((I1 106 ((((x1).toInt32)).toNatClampNeg)) + (Int32.ofInt 1))), some (.int v4), some (.int ((x1).toInt32))]) rfl rfl rfl rfl ?_
        refine hs_iinc 99 (L2 := [some (.ref 65), some (.int v1), some (.int v2), some (.int ((I1 106 ((((x1).toInt32)).toNatClampNeg)) + (Int32.ofInt 1))), some (.int (v4 + Int32.ofInt 1)), some (.int ((x1).toInt32))]) rfl rfl rfl rfl rfl ?_
        refine sp_goto rfl ?_
        refine st_wk (L1 := [some (.ref 65), some (.int v1), some (.int v2), some (.int ((I1 106 ((((x1).toInt32)).toNatClampNeg)) + (Int32.ofInt 1))), some (.int (v4 + Int32.ofInt 1)), none]) ⟨.inr rfl, .inr rfl, .inr rfl, .inr rfl, .inr rfl, .inl rfl, trivial⟩ ?_
        exact k
    · have k := k.1 q_
      refine sp_goto rfl ?_
      refine hs_iinc 99 (L2 := [some (.ref 65), some (.int v1), some (.int v2), some (.int v3), some (.int (v4 + Int32.ofInt 1)), none]) rfl rfl rfl rfl rfl ?_
      refine sp_goto rfl ?_
      exact k
def w_X11_image_18 (SL : Nat) (xs : Nat → Int32) (d : Nat) (p s q : Nat) (Q : Option Value → mm_H → Prop) (v1 : Int32) (v2 : Int32) (I : Nat → Nat → Int32) (J : Nat → Nat → Int64) : Prop := mm_w SL xs (mm_s SL xs (d + 1)) mm_am kX11_image 0 0 (some .int) Q 18 [some (.ref 65), some (.int v1), some (.int v2), none] [] (hp p s q I J) 0 0
theorem sg_X11_image {SL : Nat} {xs : Nat → Int32} {d : Nat} {p s q : Nat} {Q : Option Value → mm_H → Prop} {a0 : Int32} {I : Nat → Nat → Int32} {J : Nat → Nat → Int64}  (k : (((sx_X11_isBox a0) = Int32.ofInt 0 → Q (some (.int (Int32.ofInt (-1)))) (hp p s q I J)) ∧ (¬ ((sx_X11_isBox a0) = Int32.ofInt 0) → (vp_in a0 3 ∧ w_X11_image_18 SL xs d p s q Q a0 (Int32.ofInt 0) (mm_u I 107 ((a0).toNatClampNeg) (Int32.ofInt 1)) J)))) : mm_s SL xs (d + 2) 271 [.ref 65, .int a0] (hp p s q I J) Q := by
  refine e_X11_image rfl ?_
  refine hs_L (L2 := [some (.ref 65), some (.int a0), none, none]) rfl ?_
  refine sp_iload_n 1 rfl rfl rfl ?_
  refine sc_S 4 rfl rfl rfl rfl (Nat.le_refl _) (Nat.le_refl _) rfl ?_
  refine cx_X11_isBox ?_
  refine hs_S (st2 := [.int (sx_X11_isBox a0)]) rfl ?_
  refine sp_if_ne 7 rfl rfl (fun q_ => ?_) (fun q_ => ?_)
  · have k := k.2 q_
    refine sp_aload_n 10 rfl rfl rfl ?_
    refine hq_getR 13 rfl rfl rfl rfl ?_
    refine sp_iload_n 14 rfl rfl rfl ?_
    refine sp_iconst 15 rfl rfl ?_
    have n1_ := k.1
    have k := k.2
    refine hq_zast 16 rfl rfl n1_ (by decide) rfl ?_
    refine sp_iconst 17 rfl rfl ?_
    refine hs_istore_n 18 (L2 := [some (.ref 65), some (.int a0), some (.int (Int32.ofInt 0)), none]) rfl rfl rfl rfl ?_
    exact k
  · have k := k.1 q_
    refine sp_iconst 8 rfl rfl ?_
    exact st_iret rfl rfl (Nat.le_refl _) (Nat.le_refl _) k
theorem sg_X11_image_18 {SL : Nat} {xs : Nat → Int32} {d : Nat} {p s q : Nat} {Q : Option Value → mm_H → Prop} {v1 : Int32} {v2 : Int32} {I : Nat → Nat → Int32} {J : Nat → Nat → Int64}  (k : (((Int32.ofInt 60) ≤ v2 → (vp_in ((Int32.ofInt 6) * v1) 18 ∧ (vp_in (((Int32.ofInt 6) * v1) + (Int32.ofInt 1)) 18 ∧ (vp_in (((Int32.ofInt 6) * v1) + (Int32.ofInt 2)) 18 ∧ (vp_in (((Int32.ofInt 6) * v1) + (Int32.ofInt 3)) 18 ∧ (vp_in (Int32.ofInt 0) 2 ∧ (vp_in (((Int32.ofInt 6) * v1) + (Int32.ofInt 4)) 18 ∧ (vp_in (Int32.ofInt 1) 2 ∧ (vp_in (((Int32.ofInt 6) * v1) + (Int32.ofInt 5)) 18 ∧ (vp_in v1 3 ∧ (((I 65 64) = 0 ∨ (I 65 64) = 1) ∧ Q (some (.int (I 65 60))) (hp p s q (mm_u (mm_u (mm_u (mm_u (mm_u (mm_u (mm_u I 113 ((((Int32.ofInt 6) * v1)).toNatClampNeg) (I 65 59)) 113 (((((Int32.ofInt 6) * v1) + (Int32.ofInt 1))).toNatClampNeg) (I 65 60)) 113 (((((Int32.ofInt 6) * v1) + (Int32.ofInt 2))).toNatClampNeg) (I 65 61)) 113 (((((Int32.ofInt 6) * v1) + (Int32.ofInt 3))).toNatClampNeg) (I 65 62)) 113 (((((Int32.ofInt 6) * v1) + (Int32.ofInt 4))).toNatClampNeg) (I 90 (((Int32.ofInt 0)).toNatClampNeg))) 113 (((((Int32.ofInt 6) * v1) + (Int32.ofInt 5))).toNatClampNeg) (I 90 (((Int32.ofInt 1)).toNatClampNeg))) 109 ((v1).toNatClampNeg) (I 65 64)) J)))))))))))) ∧ (¬ ((Int32.ofInt 60) ≤ v2) → (vp_in v2 60 ∧ (vp_in (((Int32.ofInt 60) * v1) + v2) 180 ∧ (((I 91 ((v2).toNatClampNeg)) = 0 ∨ (I 91 ((v2).toNatClampNeg)) = 1) ∧ w_X11_image_18 SL xs d p s q Q v1 (v2 + Int32.ofInt 1) (mm_u (mm_u (mm_u (mm_u I 108 (((((Int32.ofInt 60) * v1) + v2)).toNatClampNeg) (I 91 ((v2).toNatClampNeg))) 110 (((((Int32.ofInt 60) * v1) + v2)).toNatClampNeg) (I 87 ((v2).toNatClampNeg))) 111 (((((Int32.ofInt 60) * v1) + v2)).toNatClampNeg) (I 88 ((v2).toNatClampNeg))) 112 (((((Int32.ofInt 60) * v1) + v2)).toNatClampNeg) (I 89 ((v2).toNatClampNeg))) J)))))) : w_X11_image_18 SL xs d p s q Q v1 v2 I J := by
  unfold w_X11_image_18
  refine sp_iload_n 19 rfl rfl rfl ?_
  refine sp_bipush 21 rfl rfl ?_
  refine sp_I (y := Int32.ofInt 60) rfl ?_
  refine sp_ic_ge 24 rfl rfl (fun q_ => ?_) (fun q_ => ?_)
  · have k := k.1 q_
    refine sp_bipush 87 rfl rfl ?_
    refine sp_I (y := Int32.ofInt 6) rfl ?_
    refine sp_iload_n 88 rfl rfl rfl ?_
    refine sp_imul 89 rfl rfl ?_
    refine hs_istore_n 90 (L2 := [some (.ref 65), some (.int v1), some (.int ((Int32.ofInt 6) * v1)), none]) rfl rfl rfl rfl ?_
    refine sp_aload_n 91 rfl rfl rfl ?_
    refine hq_getR 94 rfl rfl rfl rfl ?_
    refine sp_iload_n 95 rfl rfl rfl ?_
    refine sp_aload_n 96 rfl rfl rfl ?_
    refine hq_getI 99 rfl rfl rfl ?_
    have n2_ := k.1
    have k := k.2
    refine hq_iast 100 rfl rfl n2_ rfl ?_
    refine sp_aload_n 101 rfl rfl rfl ?_
    refine hq_getR 104 rfl rfl rfl rfl ?_
    refine sp_iload_n 105 rfl rfl rfl ?_
    refine sp_iconst 106 rfl rfl ?_
    refine sp_iadd 107 rfl rfl ?_
    refine sp_aload_n 108 rfl rfl rfl ?_
    refine hq_getI 111 rfl rfl rfl ?_
    refine sp_I (y := (I 65 60)) (by simp [mm_u]) ?_
    have n3_ := k.1
    have k := k.2
    refine hq_iast 112 rfl rfl n3_ rfl ?_
    refine sp_aload_n 113 rfl rfl rfl ?_
    refine hq_getR 116 rfl rfl rfl rfl ?_
    refine sp_iload_n 117 rfl rfl rfl ?_
    refine sp_iconst 118 rfl rfl ?_
    refine sp_iadd 119 rfl rfl ?_
    refine sp_aload_n 120 rfl rfl rfl ?_
    refine hq_getI 123 rfl rfl rfl ?_
    refine sp_I (y := (I 65 61)) (by simp [mm_u]) ?_
    have n4_ := k.1
    have k := k.2
    refine hq_iast 124 rfl rfl n4_ rfl ?_
    refine sp_aload_n 125 rfl rfl rfl ?_
    refine hq_getR 128 rfl rfl rfl rfl ?_
    refine sp_iload_n 129 rfl rfl rfl ?_
    refine sp_iconst 130 rfl rfl ?_
    refine sp_iadd 131 rfl rfl ?_
    refine sp_aload_n 132 rfl rfl rfl ?_
    refine hq_getI 135 rfl rfl rfl ?_
    refine sp_I (y := (I 65 62)) (by simp [mm_u]) ?_
    have n5_ := k.1
    have k := k.2
    refine hq_iast 136 rfl rfl n5_ rfl ?_
    refine sp_aload_n 137 rfl rfl rfl ?_
    refine hq_getR 140 rfl rfl rfl rfl ?_
    refine sp_iload_n 141 rfl rfl rfl ?_
    refine sp_iconst 142 rfl rfl ?_
    refine sp_iadd 143 rfl rfl ?_
    refine sp_aload_n 144 rfl rfl rfl ?_
    refine hq_getR 147 rfl rfl rfl rfl ?_
    refine sp_iconst 148 rfl rfl ?_
    have n6_ := k.1
    have k := k.2
    refine hq_iald 149 rfl rfl n6_ rfl ?_
    refine sp_I (y := (I 90 (((Int32.ofInt 0)).toNatClampNeg))) (by simp [mm_u]) ?_
    have n7_ := k.1
    have k := k.2
    refine hq_iast 150 rfl rfl n7_ rfl ?_
    refine sp_aload_n 151 rfl rfl rfl ?_
    refine hq_getR 154 rfl rfl rfl rfl ?_
    refine sp_iload_n 155 rfl rfl rfl ?_
    refine sp_iconst 156 rfl rfl ?_
    refine sp_iadd 157 rfl rfl ?_
    refine sp_aload_n 158 rfl rfl rfl ?_
    refine hq_getR 161 rfl rfl rfl rfl ?_
    refine sp_iconst 162 rfl rfl ?_
    have n8_ := k.1
    have k := k.2
    refine hq_iald 163 rfl rfl n8_ rfl ?_
    refine sp_I (y := (I 90 (((Int32.ofInt 1)).toNatClampNeg))) (by simp [mm_u]) ?_
    have n9_ := k.1
    have k := k.2
    refine hq_iast 164 rfl rfl n9_ rfl ?_
    refine sp_aload_n 165 rfl rfl rfl ?_
    refine hq_getR 168 rfl rfl rfl rfl ?_
    refine sp_iload_n 169 rfl rfl rfl ?_
    refine sp_aload_n 170 rfl rfl rfl ?_
    refine hq_getI 173 rfl rfl rfl ?_
    refine sp_I (y := (I 65 64)) (by simp [mm_u]) ?_
    have n10_ := k.1
    have k := k.2
    refine hq_zast 174 rfl rfl n10_ k.1 rfl ?_
    have k := k.2
    refine sp_aload_n 175 rfl rfl rfl ?_
    refine hq_getI 178 rfl rfl rfl ?_
    refine sp_I (y := (I 65 60)) (by simp [mm_u]) ?_
    exact st_iret rfl rfl (Nat.le_refl _) (Nat.le_refl _) k
  · have k := k.2 q_
    refine sp_bipush 26 rfl rfl ?_
    refine sp_I (y := Int32.ofInt 60) rfl ?_
    refine sp_iload_n 27 rfl rfl rfl ?_
    refine sp_imul 28 rfl rfl ?_
    refine sp_iload_n 29 rfl rfl rfl ?_
    refine sp_iadd 30 rfl rfl ?_
    refine hs_istore_n 31 (L2 := [some (.ref 65), some (.int v1), some (.int v2), some (.int (((Int32.ofInt 60) * v1) + v2))]) rfl rfl rfl rfl ?_
    refine sp_aload_n 32 rfl rfl rfl ?_
    refine hq_getR 35 rfl rfl rfl rfl ?_
    refine sp_iload_n 36 rfl rfl rfl ?_
    refine sp_aload_n 37 rfl rfl rfl ?_
    refine hq_getR 40 rfl rfl rfl rfl ?_
    refine sp_iload_n 41 rfl rfl rfl ?_
    have n11_ := k.1
    have k := k.2
    refine hq_zald 42 rfl rfl n11_ rfl ?_
    have n12_ := k.1
    have k := k.2
    refine hq_zast 43 rfl rfl n12_ k.1 rfl ?_
    have k := k.2
    refine sp_aload_n 44 rfl rfl rfl ?_
    refine hq_getR 47 rfl rfl rfl rfl ?_
    refine sp_iload_n 48 rfl rfl rfl ?_
    refine sp_aload_n 49 rfl rfl rfl ?_
    refine hq_getR 52 rfl rfl rfl rfl ?_
    refine sp_iload_n 53 rfl rfl rfl ?_
    refine hq_iald 54 rfl rfl n11_ rfl ?_
    refine sp_I (y := (I 87 ((v2).toNatClampNeg))) (by simp [mm_u]) ?_
    refine hq_iast 55 rfl rfl n12_ rfl ?_
    refine sp_aload_n 56 rfl rfl rfl ?_
    refine hq_getR 59 rfl rfl rfl rfl ?_
    refine sp_iload_n 60 rfl rfl rfl ?_
    refine sp_aload_n 61 rfl rfl rfl ?_
    refine hq_getR 64 rfl rfl rfl rfl ?_
    refine sp_iload_n 65 rfl rfl rfl ?_
    refine hq_iald 66 rfl rfl n11_ rfl ?_
    refine sp_I (y := (I 88 ((v2).toNatClampNeg))) (by simp [mm_u]) ?_
    refine hq_iast 67 rfl rfl n12_ rfl ?_
    refine sp_aload_n 68 rfl rfl rfl ?_
    refine hq_getR 71 rfl rfl rfl rfl ?_
    refine sp_iload_n 72 rfl rfl rfl ?_
    refine sp_aload_n 73 rfl rfl rfl ?_
    refine hq_getR 76 rfl rfl rfl rfl ?_
    refine sp_iload_n 77 rfl rfl rfl ?_
    refine hq_iald 78 rfl rfl n11_ rfl ?_
    refine sp_I (y := (I 89 ((v2).toNatClampNeg))) (by simp [mm_u]) ?_
    refine hq_iast 79 rfl rfl n12_ rfl ?_
    refine hs_iinc 82 (L2 := [some (.ref 65), some (.int v1), some (.int (v2 + Int32.ofInt 1)), some (.int (((Int32.ofInt 60) * v1) + v2))]) rfl rfl rfl rfl rfl ?_
    refine sp_goto rfl ?_
    refine st_wk (L1 := [some (.ref 65), some (.int v1), some (.int (v2 + Int32.ofInt 1)), none]) ⟨.inr rfl, .inr rfl, .inr rfl, .inl rfl, trivial⟩ ?_
    exact k
def w_X11_back_20 (SL : Nat) (xs : Nat → Int32) (d : Nat) (p s q : Nat) (Q : Option Value → mm_H → Prop) (v1 : Int32) (v2 : Int32) (I : Nat → Nat → Int32) (J : Nat → Nat → Int64) : Prop := mm_w SL xs (mm_s SL xs (d + 1)) mm_am kX11_back 0 0 (some .int) Q 20 [some (.ref 65), some (.int v1), some (.int v2), none] [] (hp p s q I J) 0 0
theorem sg_X11_back {SL : Nat} {xs : Nat → Int32} {d : Nat} {p s q : Nat} {Q : Option Value → mm_H → Prop} {a0 : Int32} {I : Nat → Nat → Int32} {J : Nat → Nat → Int64}  (k : (((sx_X11_isBox a0) = Int32.ofInt 0 → Q (some (.int (Int32.ofInt (-1)))) (hp p s q I J)) ∧ (¬ ((sx_X11_isBox a0) = Int32.ofInt 0) → (vp_in a0 3 ∧ (((I 107 ((a0).toNatClampNeg)) = Int32.ofInt 0 → Q (some (.int (Int32.ofInt (-1)))) (hp p s q I J)) ∧ (¬ ((I 107 ((a0).toNatClampNeg)) = Int32.ofInt 0) → w_X11_back_20 SL xs d p s q Q a0 (Int32.ofInt 0) I J)))))) : mm_s SL xs (d + 2) 272 [.ref 65, .int a0] (hp p s q I J) Q := by
  refine e_X11_back rfl ?_
  refine hs_L (L2 := [some (.ref 65), some (.int a0), none, none]) rfl ?_
  refine sp_iload_n 1 rfl rfl rfl ?_
  refine sc_S 4 rfl rfl rfl rfl (Nat.le_refl _) (Nat.le_refl _) rfl ?_
  refine cx_X11_isBox ?_
  refine hs_S (st2 := [.int (sx_X11_isBox a0)]) rfl ?_
  refine sp_if_eq 7 rfl rfl (fun q_ => ?_) (fun q_ => ?_)
  · have k := k.1 q_
    refine sp_iconst 17 rfl rfl ?_
    exact st_iret rfl rfl (Nat.le_refl _) (Nat.le_refl _) k
  · have k := k.2 q_
    refine sp_aload_n 8 rfl rfl rfl ?_
    refine hq_getR 11 rfl rfl rfl rfl ?_
    refine sp_iload_n 12 rfl rfl rfl ?_
    have n1_ := k.1
    have k := k.2
    refine hq_zald 13 rfl rfl n1_ rfl ?_
    refine sp_if_ne 16 rfl rfl (fun q_ => ?_) (fun q_ => ?_)
    · have k := k.2 q_
      refine sp_iconst 19 rfl rfl ?_
      refine hs_istore_n 20 (L2 := [some (.ref 65), some (.int a0), some (.int (Int32.ofInt 0)), none]) rfl rfl rfl rfl ?_
      exact k
    · have k := k.1 q_
      refine sp_iconst 17 rfl rfl ?_
      exact st_iret rfl rfl (Nat.le_refl _) (Nat.le_refl _) k
theorem sg_X11_back_20 {SL : Nat} {xs : Nat → Int32} {d : Nat} {p s q : Nat} {Q : Option Value → mm_H → Prop} {v1 : Int32} {v2 : Int32} {I : Nat → Nat → Int32} {J : Nat → Nat → Int64}  (k : (((Int32.ofInt 60) ≤ v2 → (vp_in ((Int32.ofInt 6) * v1) 18 ∧ (vp_in (((Int32.ofInt 6) * v1) + (Int32.ofInt 1)) 18 ∧ (vp_in (((Int32.ofInt 6) * v1) + (Int32.ofInt 2)) 18 ∧ (vp_in (((Int32.ofInt 6) * v1) + (Int32.ofInt 3)) 18 ∧ (vp_in (((Int32.ofInt 6) * v1) + (Int32.ofInt 4)) 18 ∧ (vp_in (Int32.ofInt 0) 2 ∧ (vp_in (((Int32.ofInt 6) * v1) + (Int32.ofInt 5)) 18 ∧ (vp_in (Int32.ofInt 1) 2 ∧ (vp_in v1 3 ∧ (((I 109 ((v1).toNatClampNeg)) = 0 ∨ (I 109 ((v1).toNatClampNeg)) = 1) ∧ Q (some (.int (I 113 (((((Int32.ofInt 6) * v1) + (Int32.ofInt 1))).toNatClampNeg)))) (hp p s q (mm_u (mm_u (mm_u (mm_u (mm_u (mm_u (mm_u I 65 59 (I 113 ((((Int32.ofInt 6) * v1)).toNatClampNeg))) 65 60 (I 113 (((((Int32.ofInt 6) * v1) + (Int32.ofInt 1))).toNatClampNeg))) 65 61 (I 113 (((((Int32.ofInt 6) * v1) + (Int32.ofInt 2))).toNatClampNeg))) 65 62 (I 113 (((((Int32.ofInt 6) * v1) + (Int32.ofInt 3))).toNatClampNeg))) 90 (((Int32.ofInt 0)).toNatClampNeg) (I 113 (((((Int32.ofInt 6) * v1) + (Int32.ofInt 4))).toNatClampNeg))) 90 (((Int32.ofInt 1)).toNatClampNeg) (I 113 (((((Int32.ofInt 6) * v1) + (Int32.ofInt 5))).toNatClampNeg))) 65 64 (I 109 ((v1).toNatClampNeg))) J)))))))))))) ∧ (¬ ((Int32.ofInt 60) ≤ v2) → (vp_in (((Int32.ofInt 60) * v1) + v2) 180 ∧ (vp_in v2 60 ∧ (((I 108 (((((Int32.ofInt 60) * v1) + v2)).toNatClampNeg)) = 0 ∨ (I 108 (((((Int32.ofInt 60) * v1) + v2)).toNatClampNeg)) = 1) ∧ w_X11_back_20 SL xs d p s q Q v1 (v2 + Int32.ofInt 1) (mm_u (mm_u (mm_u (mm_u I 91 ((v2).toNatClampNeg) (I 108 (((((Int32.ofInt 60) * v1) + v2)).toNatClampNeg))) 87 ((v2).toNatClampNeg) (I 110 (((((Int32.ofInt 60) * v1) + v2)).toNatClampNeg))) 88 ((v2).toNatClampNeg) (I 111 (((((Int32.ofInt 60) * v1) + v2)).toNatClampNeg))) 89 ((v2).toNatClampNeg) (I 112 (((((Int32.ofInt 60) * v1) + v2)).toNatClampNeg))) J)))))) : w_X11_back_20 SL xs d p s q Q v1 v2 I J := by
  unfold w_X11_back_20
  refine sp_iload_n 21 rfl rfl rfl ?_
  refine sp_bipush 23 rfl rfl ?_
  refine sp_I (y := Int32.ofInt 60) rfl ?_
  refine sp_ic_ge 26 rfl rfl (fun q_ => ?_) (fun q_ => ?_)
  · have k := k.1 q_
    refine sp_bipush 89 rfl rfl ?_
    refine sp_I (y := Int32.ofInt 6) rfl ?_
    refine sp_iload_n 90 rfl rfl rfl ?_
    refine sp_imul 91 rfl rfl ?_
    refine hs_istore_n 92 (L2 := [some (.ref 65), some (.int v1), some (.int ((Int32.ofInt 6) * v1)), none]) rfl rfl rfl rfl ?_
    refine sp_aload_n 93 rfl rfl rfl ?_
    refine sp_aload_n 94 rfl rfl rfl ?_
    refine hq_getR 97 rfl rfl rfl rfl ?_
    refine sp_iload_n 98 rfl rfl rfl ?_
    have n2_ := k.1
    have k := k.2
    refine hq_iald 99 rfl rfl n2_ rfl ?_
    refine hq_putI 102 rfl rfl rfl ?_
    refine sp_aload_n 103 rfl rfl rfl ?_
    refine sp_aload_n 104 rfl rfl rfl ?_
    refine hq_getR 107 rfl rfl rfl rfl ?_
    refine sp_iload_n 108 rfl rfl rfl ?_
    refine sp_iconst 109 rfl rfl ?_
    refine sp_iadd 110 rfl rfl ?_
    have n3_ := k.1
    have k := k.2
    refine hq_iald 111 rfl rfl n3_ rfl ?_
    refine sp_I (y := (I 113 (((((Int32.ofInt 6) * v1) + (Int32.ofInt 1))).toNatClampNeg))) (by simp [mm_u]) ?_
    refine hq_putI 114 rfl rfl rfl ?_
    refine sp_aload_n 115 rfl rfl rfl ?_
    refine sp_aload_n 116 rfl rfl rfl ?_
    refine hq_getR 119 rfl rfl rfl rfl ?_
    refine sp_iload_n 120 rfl rfl rfl ?_
    refine sp_iconst 121 rfl rfl ?_
    refine sp_iadd 122 rfl rfl ?_
    have n4_ := k.1
    have k := k.2
    refine hq_iald 123 rfl rfl n4_ rfl ?_
    refine sp_I (y := (I 113 (((((Int32.ofInt 6) * v1) + (Int32.ofInt 2))).toNatClampNeg))) (by simp [mm_u]) ?_
    refine hq_putI 126 rfl rfl rfl ?_
    refine sp_aload_n 127 rfl rfl rfl ?_
    refine sp_aload_n 128 rfl rfl rfl ?_
    refine hq_getR 131 rfl rfl rfl rfl ?_
    refine sp_iload_n 132 rfl rfl rfl ?_
    refine sp_iconst 133 rfl rfl ?_
    refine sp_iadd 134 rfl rfl ?_
    have n5_ := k.1
    have k := k.2
    refine hq_iald 135 rfl rfl n5_ rfl ?_
    refine sp_I (y := (I 113 (((((Int32.ofInt 6) * v1) + (Int32.ofInt 3))).toNatClampNeg))) (by simp [mm_u]) ?_
    refine hq_putI 138 rfl rfl rfl ?_
    refine sp_aload_n 139 rfl rfl rfl ?_
    refine hq_getR 142 rfl rfl rfl rfl ?_
    refine sp_iconst 143 rfl rfl ?_
    refine sp_aload_n 144 rfl rfl rfl ?_
    refine hq_getR 147 rfl rfl rfl rfl ?_
    refine sp_iload_n 148 rfl rfl rfl ?_
    refine sp_iconst 149 rfl rfl ?_
    refine sp_iadd 150 rfl rfl ?_
    have n6_ := k.1
    have k := k.2
    refine hq_iald 151 rfl rfl n6_ rfl ?_
    refine sp_I (y := (I 113 (((((Int32.ofInt 6) * v1) + (Int32.ofInt 4))).toNatClampNeg))) (by simp [mm_u]) ?_
    have n7_ := k.1
    have k := k.2
    refine hq_iast 152 rfl rfl n7_ rfl ?_
    refine sp_aload_n 153 rfl rfl rfl ?_
    refine hq_getR 156 rfl rfl rfl rfl ?_
    refine sp_iconst 157 rfl rfl ?_
    refine sp_aload_n 158 rfl rfl rfl ?_
    refine hq_getR 161 rfl rfl rfl rfl ?_
    refine sp_iload_n 162 rfl rfl rfl ?_
    refine sp_iconst 163 rfl rfl ?_
    refine sp_iadd 164 rfl rfl ?_
    have n8_ := k.1
    have k := k.2
    refine hq_iald 165 rfl rfl n8_ rfl ?_
    refine sp_I (y := (I 113 (((((Int32.ofInt 6) * v1) + (Int32.ofInt 5))).toNatClampNeg))) (by simp [mm_u]) ?_
    have n9_ := k.1
    have k := k.2
    refine hq_iast 166 rfl rfl n9_ rfl ?_
    refine sp_aload_n 167 rfl rfl rfl ?_
    refine sp_aload_n 168 rfl rfl rfl ?_
    refine hq_getR 171 rfl rfl rfl rfl ?_
    refine sp_iload_n 172 rfl rfl rfl ?_
    have n10_ := k.1
    have k := k.2
    refine hq_zald 173 rfl rfl n10_ rfl ?_
    refine sp_I (y := (I 109 ((v1).toNatClampNeg))) (by simp [mm_u]) ?_
    refine hq_putZ 176 rfl rfl k.1 rfl ?_
    have k := k.2
    refine sp_aload_n 177 rfl rfl rfl ?_
    refine hq_getI 180 rfl rfl rfl ?_
    refine sp_I (y := (I 113 (((((Int32.ofInt 6) * v1) + (Int32.ofInt 1))).toNatClampNeg))) (by simp [mm_u]) ?_
    exact st_iret rfl rfl (Nat.le_refl _) (Nat.le_refl _) k
  · have k := k.2 q_
    refine sp_bipush 28 rfl rfl ?_
    refine sp_I (y := Int32.ofInt 60) rfl ?_
    refine sp_iload_n 29 rfl rfl rfl ?_
    refine sp_imul 30 rfl rfl ?_
    refine sp_iload_n 31 rfl rfl rfl ?_
    refine sp_iadd 32 rfl rfl ?_
    refine hs_istore_n 33 (L2 := [some (.ref 65), some (.int v1), some (.int v2), some (.int (((Int32.ofInt 60) * v1) + v2))]) rfl rfl rfl rfl ?_
    refine sp_aload_n 34 rfl rfl rfl ?_
    refine hq_getR 37 rfl rfl rfl rfl ?_
    refine sp_iload_n 38 rfl rfl rfl ?_
    refine sp_aload_n 39 rfl rfl rfl ?_
    refine hq_getR 42 rfl rfl rfl rfl ?_
    refine sp_iload_n 43 rfl rfl rfl ?_
    have n11_ := k.1
    have k := k.2
    refine hq_zald 44 rfl rfl n11_ rfl ?_
    have n12_ := k.1
    have k := k.2
    refine hq_zast 45 rfl rfl n12_ k.1 rfl ?_
    have k := k.2
    refine sp_aload_n 46 rfl rfl rfl ?_
    refine hq_getR 49 rfl rfl rfl rfl ?_
    refine sp_iload_n 50 rfl rfl rfl ?_
    refine sp_aload_n 51 rfl rfl rfl ?_
    refine hq_getR 54 rfl rfl rfl rfl ?_
    refine sp_iload_n 55 rfl rfl rfl ?_
    refine hq_iald 56 rfl rfl n11_ rfl ?_
    refine sp_I (y := (I 110 (((((Int32.ofInt 60) * v1) + v2)).toNatClampNeg))) (by simp [mm_u]) ?_
    refine hq_iast 57 rfl rfl n12_ rfl ?_
    refine sp_aload_n 58 rfl rfl rfl ?_
    refine hq_getR 61 rfl rfl rfl rfl ?_
    refine sp_iload_n 62 rfl rfl rfl ?_
    refine sp_aload_n 63 rfl rfl rfl ?_
    refine hq_getR 66 rfl rfl rfl rfl ?_
    refine sp_iload_n 67 rfl rfl rfl ?_
    refine hq_iald 68 rfl rfl n11_ rfl ?_
    refine sp_I (y := (I 111 (((((Int32.ofInt 60) * v1) + v2)).toNatClampNeg))) (by simp [mm_u]) ?_
    refine hq_iast 69 rfl rfl n12_ rfl ?_
    refine sp_aload_n 70 rfl rfl rfl ?_
    refine hq_getR 73 rfl rfl rfl rfl ?_
    refine sp_iload_n 74 rfl rfl rfl ?_
    refine sp_aload_n 75 rfl rfl rfl ?_
    refine hq_getR 78 rfl rfl rfl rfl ?_
    refine sp_iload_n 79 rfl rfl rfl ?_
    refine hq_iald 80 rfl rfl n11_ rfl ?_
    refine sp_I (y := (I 112 (((((Int32.ofInt 60) * v1) + v2)).toNatClampNeg))) (by simp [mm_u]) ?_
    refine hq_iast 81 rfl rfl n12_ rfl ?_
    refine hs_iinc 84 (L2 := [some (.ref 65), some (.int v1), some (.int (v2 + Int32.ofInt 1)), some (.int (((Int32.ofInt 60) * v1) + v2))]) rfl rfl rfl rfl rfl ?_
    refine sp_goto rfl ?_
    refine st_wk (L1 := [some (.ref 65), some (.int v1), some (.int (v2 + Int32.ofInt 1)), none]) ⟨.inr rfl, .inr rfl, .inr rfl, .inl rfl, trivial⟩ ?_
    exact k
theorem sg_X11_want {SL : Nat} {xs : Nat → Int32} {d : Nat} {p s q : Nat} {Q : Option Value → mm_H → Prop} {a0 : Int64} {I : Nat → Nat → Int32} {J : Nat → Nat → Int64}  (k : (((I 65 2) ≤ Int32.ofInt 0 → (((sy_X11_isWord a0 I J) = Int32.ofInt 0 → (mm_s SL xs (d + 2) 173 [.ref 65, .int (Int32.ofInt 2)] (hp p s q I J) (fun r_ h_ => ∃ I2 J2, r_ = none ∧ h_ = hp p s q I2 J2 ∧ Q none (hp p s q I2 J2)))) ∧ (¬ ((sy_X11_isWord a0 I J) = Int32.ofInt 0) → (mm_s SL xs (d + 2) 172 [.ref 65] (hp p s q I J) (fun r_ h_ => ∃ I1 J1, r_ = none ∧ h_ = hp p s q I1 J1 ∧ Q none (hp p s q I1 J1)))))) ∧ (¬ ((I 65 2) ≤ Int32.ofInt 0) → Q none (hp p s q I J)))) : mm_s SL xs (d + 3) 176 [.ref 65, .long a0] (hp p s q I J) Q := by
  refine e_X11_want rfl ?_
  refine hs_L (L2 := [some (.ref 65), some (.long a0), none]) rfl ?_
  refine sp_aload_n 1 rfl rfl rfl ?_
  refine hq_getI 4 rfl rfl rfl ?_
  refine sp_if_le 7 rfl rfl (fun q_ => ?_) (fun q_ => ?_)
  · have k := k.1 q_
    refine sp_aload_n 9 rfl rfl rfl ?_
    refine sp_lload_n 10 rfl rfl rfl ?_
    refine sc_V 13 rfl rfl rfl rfl rfl (Nat.le_refl _) (Nat.le_refl _) rfl ?_
    refine cy_X11_isWord ?_
    refine sp_if_ne 16 rfl rfl (fun q_ => ?_) (fun q_ => ?_)
    · have k := k.2 q_
      refine sp_aload_n 25 rfl rfl rfl ?_
      refine sc_V 28 rfl rfl rfl rfl rfl (Nat.le_refl _) (Nat.le_refl _) rfl ?_
      refine mm_s_mono _ _ _ _ _ _ ?_ k
      rintro r_ h_ ⟨I1, J1, rfl, rfl, k⟩
      refine hs_S (st2 := []) rfl ?_
      exact st_vret rfl rfl (Nat.le_refl _) (Nat.le_refl _) k
    · have k := k.1 q_
      refine sp_aload_n 17 rfl rfl rfl ?_
      refine sp_iconst 18 rfl rfl ?_
      refine sc_V 21 rfl rfl rfl rfl rfl (Nat.le_refl _) (Nat.le_refl _) rfl ?_
      refine mm_s_mono _ _ _ _ _ _ ?_ k
      rintro r_ h_ ⟨I2, J2, rfl, rfl, k⟩
      refine hs_S (st2 := []) rfl ?_
      refine sp_goto rfl ?_
      exact st_vret rfl rfl (Nat.le_refl _) (Nat.le_refl _) k
  · have k := k.2 q_
    exact st_vret rfl rfl (Nat.le_refl _) (Nat.le_refl _) k
