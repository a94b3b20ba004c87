def w_X7_readSum_8 (SL : Nat) (xs : Nat → Int32) (d : Nat) (p s q : Nat) (Q : Option Value → mm_H → Prop) (v1 : Int32) (v2 : Int32) (v3 : Int32) (I : Nat → Nat → Int32) (J : Nat → Nat → Int64) : Prop := mm_w SL xs (mm_s SL xs (d + 90)) mm_am kX7_readSum 0 0 (some .boolean) Q 8 [some (.ref 3), some (.int v1), some (.int v2), some (.int v3), none] [] (hp p s q I J) 0 0
theorem sg_X7_readSum {SL : Nat} {xs : Nat → Int32} {d : Nat} {p s q : Nat} {Q : Option Value → mm_H → Prop} {a0 : Int32} {I : Nat → Nat → Int32} {J : Nat → Nat → Int64}  (k : (mm_s SL xs (d + 90) 89 [.ref 3, .int a0] (hp p s q I J) (fun r_ h_ => ∃ x1 I1 J1, r_ = some (.int x1) ∧ h_ = hp p s q I1 J1 ∧ w_X7_readSum_8 SL xs d p s q Q a0 x1 (Int32.ofInt 0) I1 J1))) : mm_s SL xs (d + 91) 88 [.ref 3, .int a0] (hp p s q I J) Q := by
  refine e_X7_readSum rfl ?_
  refine hs_L (L2 := [some (.ref 3), some (.int a0), none, none, none]) rfl ?_
  refine sp_aload_n 1 rfl rfl rfl ?_
  refine sp_iload_n 2 rfl rfl rfl ?_
  refine sc_V 5 rfl rfl rfl rfl rfl (Nat.le_refl _) (Nat.le_refl _) rfl ?_
  refine mm_s_mono _ _ _ _ _ _ ?_ k
  rintro r_ h_ ⟨x1, I1, J1, rfl, rfl, k⟩
  refine hs_S (st2 := [.int x1]) rfl ?_
  refine hs_istore_n 6 (L2 := [some (.ref 3), some (.int a0), some (.int x1), none, none]) rfl rfl rfl rfl ?_
  refine sp_iconst 7 rfl rfl ?_
  refine hs_istore_n 8 (L2 := [some (.ref 3), some (.int a0), some (.int x1), some (.int (Int32.ofInt 0)), none]) rfl rfl rfl rfl ?_
  exact k
theorem sg_X7_readSum_8 {SL : Nat} {xs : Nat → Int32} {d : Nat} {p s q : Nat} {Q : Option Value → mm_H → Prop} {v1 : Int32} {v2 : Int32} {v3 : Int32} {I : Nat → Nat → Int32} {J : Nat → Nat → Int64} (h_q : isP q) (k : (((Int32.ofInt 40) ≤ v3 → ((v2 = 0 ∨ v2 = 1) ∧ Q (some (.int v2)) (hp p s q I J))) ∧ (¬ ((Int32.ofInt 40) ≤ v3) → ((v2 = Int32.ofInt 0 → ((v2 = 0 ∨ v2 = 1) ∧ Q (some (.int v2)) (hp p s q I J))) ∧ (¬ (v2 = Int32.ofInt 0) → (((I 4 2) = (Int32.ofInt 43) → (mm_s SL xs (d + 90) 105 [.ref 4] (hp p s q I J) (fun r_ h_ => ∃ I1 J1, r_ = none ∧ h_ = hp p s q I1 J1 ∧ (mm_s SL xs (d + 90) 89 [.ref 3, .int v1] (hp p s q I1 J1) (fun r_ h_ => ∃ x2 I2 J2, r_ = some (.int x2) ∧ h_ = hp p s q I2 J2 ∧ (mm_s SL xs (d + 90) 58 [.ref q, .int (-(I 4 2))] (hp p s q I2 J2) (fun r_ h_ => ∃ I3 J3, r_ = none ∧ h_ = hp p s q I3 J3 ∧ w_X7_readSum_8 SL xs d p s q Q v1 x2 (v3 + Int32.ofInt 1) I3 J3))))))) ∧ (¬ ((I 4 2) = (Int32.ofInt 43)) → (((I 4 2) = (Int32.ofInt 45) → (mm_s SL xs (d + 90) 105 [.ref 4] (hp p s q I J) (fun r_ h_ => ∃ I4 J4, r_ = none ∧ h_ = hp p s q I4 J4 ∧ (mm_s SL xs (d + 90) 89 [.ref 3, .int v1] (hp p s q I4 J4) (fun r_ h_ => ∃ x5 I5 J5, r_ = some (.int x5) ∧ h_ = hp p s q I5 J5 ∧ (mm_s SL xs (d + 90) 58 [.ref q, .int (-(I 4 2))] (hp p s q I5 J5) (fun r_ h_ => ∃ I6 J6, r_ = none ∧ h_ = hp p s q I6 J6 ∧ w_X7_readSum_8 SL xs d p s q Q v1 x5 (v3 + Int32.ofInt 1) I6 J6))))))) ∧ (¬ ((I 4 2) = (Int32.ofInt 45)) → ((v2 = 0 ∨ v2 = 1) ∧ Q (some (.int v2)) (hp p s q I J))))))))))) : w_X7_readSum_8 SL xs d p s q Q v1 v2 v3 I J := by
  unfold w_X7_readSum_8
  refine sp_iload_n 9 rfl rfl rfl ?_
  refine sp_bipush 11 rfl rfl ?_
  refine sp_I (y := Int32.ofInt 40) rfl ?_
  refine sp_ic_ge 14 rfl rfl (fun q_ => ?_) (fun q_ => ?_)
  · have k := k.1 q_
    refine sp_iload_n 81 rfl rfl rfl ?_
    exact st_zret rfl rfl k.1 (Nat.le_refl _) (Nat.le_refl _) k.2
  · have k := k.2 q_
    refine sp_iload_n 15 rfl rfl rfl ?_
    refine sp_if_eq 18 rfl rfl (fun q_ => ?_) (fun q_ => ?_)
    · have k := k.1 q_
      refine sp_iload_n 81 rfl rfl rfl ?_
      exact st_zret rfl rfl k.1 (Nat.le_refl _) (Nat.le_refl _) k.2
    · have k := k.2 q_
      refine sp_aload_n 19 rfl rfl rfl ?_
      refine hq_getR 22 rfl rfl rfl rfl ?_
      refine hq_getI 25 rfl rfl rfl ?_
      refine sp_bipush 27 rfl rfl ?_
      refine sp_I (y := Int32.ofInt 43) rfl ?_
      refine sp_ic_eq 30 rfl rfl (fun q_ => ?_) (fun q_ => ?_)
      · have k := k.1 q_
        refine sp_aload_n 43 rfl rfl rfl ?_
        refine hq_getR 46 rfl rfl rfl rfl ?_
        refine hq_getI 49 rfl rfl rfl ?_
        refine hs_istore 51 (L2 := [some (.ref 3), some (.int v1), some (.int v2), some (.int v3), some (.int (I 4 2))]) rfl rfl rfl rfl ?_
        refine sp_aload_n 52 rfl rfl rfl ?_
        refine hq_getR 55 rfl rfl rfl rfl ?_
        refine sc_V 58 rfl rfl rfl rfl rfl (Nat.le_refl _) (Nat.le_refl _) rfl ?_
        refine mm_s_mono _ _ _ _ _ _ ?_ k
        rintro r_ h_ ⟨I1, J1, rfl, rfl, k⟩
        refine hs_S (st2 := []) rfl ?_
        refine sp_aload_n 59 rfl rfl rfl ?_
        refine sp_iload_n 60 rfl rfl rfl ?_
        refine sc_V 63 rfl rfl rfl rfl rfl (Nat.le_refl _) (Nat.le_refl _) rfl ?_
        refine mm_s_mono _ _ _ _ _ _ ?_ k
        rintro r_ h_ ⟨x2, I2, J2, rfl, rfl, k⟩
        refine hs_S (st2 := [.int x2]) rfl ?_
        refine hs_istore_n 64 (L2 := [some (.ref 3), some (.int v1), some (.int x2), some (.int v3), some (.int (I 4 2))]) rfl rfl rfl rfl ?_
        refine sp_aload_n 65 rfl rfl rfl ?_
        refine hq_getR 68 rfl rfl rfl rfl ?_
        refine sp_iload 70 rfl rfl rfl ?_
        refine sp_ineg 71 rfl rfl ?_
        refine sc_V 74 rfl rfl (kP0 h_q) rfl rfl (Nat.le_refl _) (Nat.le_refl _) rfl ?_
        refine mm_s_mono _ _ _ _ _ _ ?_ k
        rintro r_ h_ ⟨I3, J3, rfl, rfl, k⟩
        refine hs_S (st2 := []) rfl ?_
        refine hs_iinc 77 (L2 := [some (.ref 3), some (.int v1), some (.int x2), some (.int (v3 + Int32.ofInt 1)), some (.int (I 4 2))]) rfl rfl rfl rfl rfl ?_
        refine sp_goto rfl ?_
        refine st_wk (L1 := [some (.ref 3), some (.int v1), some (.int x2), some (.int (v3 + Int32.ofInt 1)), none]) ⟨.inr rfl, .inr rfl, .inr rfl, .inr rfl, .inl rfl, trivial⟩ ?_
        exact k
      · have k := k.2 q_
        refine sp_aload_n 31 rfl rfl rfl ?_
        refine hq_getR 34 rfl rfl rfl rfl ?_
        refine hq_getI 37 rfl rfl rfl ?_
        refine sp_bipush 39 rfl rfl ?_
        refine sp_I (y := Int32.ofInt 45) rfl ?_
        refine sp_ic_ne 42 rfl rfl (fun q_ => ?_) (fun q_ => ?_)
        · have k := k.2 q_
          refine sp_iload_n 81 rfl rfl rfl ?_
          exact st_zret rfl rfl k.1 (Nat.le_refl _) (Nat.le_refl _) k.2
        · have k := k.1 q_
          refine sp_aload_n 43 rfl rfl rfl ?_
          refine hq_getR 46 rfl rfl rfl rfl ?_
          refine hq_getI 49 rfl rfl rfl ?_
          refine hs_istore 51 (L2 := [some (.ref 3), some (.int v1), some (.int v2), some (.int v3), some (.int (I 4 2))]) rfl rfl rfl rfl ?_
          refine sp_aload_n 52 rfl rfl rfl ?_
          refine hq_getR 55 rfl rfl rfl rfl ?_
          refine sc_V 58 rfl rfl rfl rfl rfl (Nat.le_refl _) (Nat.le_refl _) rfl ?_
          refine mm_s_mono _ _ _ _ _ _ ?_ k
          rintro r_ h_ ⟨I4, J4, rfl, rfl, k⟩
          refine hs_S (st2 := []) rfl ?_
          refine sp_aload_n 59 rfl rfl rfl ?_
          refine sp_iload_n 60 rfl rfl rfl ?_
          refine sc_V 63 rfl rfl rfl rfl rfl (Nat.le_refl _) (Nat.le_refl _) rfl ?_
          refine mm_s_mono _ _ _ _ _ _ ?_ k
          rintro r_ h_ ⟨x5, I5, J5, rfl, rfl, k⟩
          refine hs_S (st2 := [.int x5]) rfl ?_
          refine hs_istore_n 64 (L2 := [some (.ref 3), some (.int v1), some (.int x5), some (.int v3), some (.int (I 4 2))]) rfl rfl rfl rfl ?_
          refine sp_aload_n 65 rfl rfl rfl ?_
          refine hq_getR 68 rfl rfl rfl rfl ?_
          refine sp_iload 70 rfl rfl rfl ?_
          refine sp_ineg 71 rfl rfl ?_
          refine sc_V 74 rfl rfl (kP0 h_q) rfl rfl (Nat.le_refl _) (Nat.le_refl _) rfl ?_
          refine mm_s_mono _ _ _ _ _ _ ?_ k
          rintro r_ h_ ⟨I6, J6, rfl, rfl, k⟩
          refine hs_S (st2 := []) rfl ?_
          refine hs_iinc 77 (L2 := [some (.ref 3), some (.int v1), some (.int x5), some (.int (v3 + Int32.ofInt 1)), some (.int (I 4 2))]) rfl rfl rfl rfl rfl ?_
          refine sp_goto rfl ?_
          refine st_wk (L1 := [some (.ref 3), some (.int v1), some (.int x5), some (.int (v3 + Int32.ofInt 1)), none]) ⟨.inr rfl, .inr rfl, .inr rfl, .inr rfl, .inl rfl, trivial⟩ ?_
          exact k
theorem sg_X7_readOne {SL : Nat} {xs : Nat → Int32} {d : Nat} {p s q : Nat} {Q : Option Value → mm_H → Prop} {a0 : Int32} {I : Nat → Nat → Int32} {J : Nat → Nat → Int64} (h_q : isP q) (k : (((I 4 2) = (Int32.ofInt 144) → (mm_s SL xs (d + 90) 87 [.ref 3, .int a0] (hp p s q I J) (fun r_ h_ => ∃ x11 I11 J11, r_ = some (.int x11) ∧ h_ = hp p s q I11 J11 ∧ ((x11 = 0 ∨ x11 = 1) ∧ Q (some (.int x11)) (hp p s q I11 J11))))) ∧ (¬ ((I 4 2) = (Int32.ofInt 144)) → (mm_s SL xs (d + 90) 88 [.ref 3, .int a0] (hp p s q I J) (fun r_ h_ => ∃ x1 I1 J1, r_ = some (.int x1) ∧ h_ = hp p s q I1 J1 ∧ ((x1 = Int32.ofInt 0 → Q (some (.int (Int32.ofInt 0))) (hp p s q I1 J1)) ∧ (¬ (x1 = Int32.ofInt 0) → (((I1 4 2) = (Int32.ofInt 60) → (mm_s SL xs (d + 90) 105 [.ref 4] (hp p s q I1 J1) (fun r_ h_ => ∃ I2 J2, r_ = none ∧ h_ = hp p s q I2 J2 ∧ (mm_s SL xs (d + 90) 88 [.ref 3, .int a0] (hp p s q I2 J2) (fun r_ h_ => ∃ x3 I3 J3, r_ = some (.int x3) ∧ h_ = hp p s q I3 J3 ∧ (mm_s SL xs (d + 90) 58 [.ref q, .int (-(I1 4 2))] (hp p s q I3 J3) (fun r_ h_ => ∃ I4 J4, r_ = none ∧ h_ = hp p s q I4 J4 ∧ ((x3 = 0 ∨ x3 = 1) ∧ Q (some (.int x3)) (hp p s q I4 J4))))))))) ∧ (¬ ((I1 4 2) = (Int32.ofInt 60)) → (((I1 4 2) = (Int32.ofInt 62) → (mm_s SL xs (d + 90) 105 [.ref 4] (hp p s q I1 J1) (fun r_ h_ => ∃ I5 J5, r_ = none ∧ h_ = hp p s q I5 J5 ∧ (mm_s SL xs (d + 90) 88 [.ref 3, .int a0] (hp p s q I5 J5) (fun r_ h_ => ∃ x6 I6 J6, r_ = some (.int x6) ∧ h_ = hp p s q I6 J6 ∧ (mm_s SL xs (d + 90) 58 [.ref q, .int (-(I1 4 2))] (hp p s q I6 J6) (fun r_ h_ => ∃ I7 J7, r_ = none ∧ h_ = hp p s q I7 J7 ∧ ((x6 = 0 ∨ x6 = 1) ∧ Q (some (.int x6)) (hp p s q I7 J7))))))))) ∧ (¬ ((I1 4 2) = (Int32.ofInt 62)) → (((I1 4 2) = (Int32.ofInt 61) → (mm_s SL xs (d + 90) 105 [.ref 4] (hp p s q I1 J1) (fun r_ h_ => ∃ I8 J8, r_ = none ∧ h_ = hp p s q I8 J8 ∧ (mm_s SL xs (d + 90) 88 [.ref 3, .int a0] (hp p s q I8 J8) (fun r_ h_ => ∃ x9 I9 J9, r_ = some (.int x9) ∧ h_ = hp p s q I9 J9 ∧ (mm_s SL xs (d + 90) 58 [.ref q, .int (-(I1 4 2))] (hp p s q I9 J9) (fun r_ h_ => ∃ I10 J10, r_ = none ∧ h_ = hp p s q I10 J10 ∧ ((x9 = 0 ∨ x9 = 1) ∧ Q (some (.int x9)) (hp p s q I10 J10))))))))) ∧ (¬ ((I1 4 2) = (Int32.ofInt 61)) → Q (some (.int (Int32.ofInt 1))) (hp p s q I1 J1)))))))))))))) : mm_s SL xs (d + 91) 86 [.ref 3, .int a0] (hp p s q I J) Q := by
  refine e_X7_readOne rfl ?_
  refine hs_L (L2 := [some (.ref 3), some (.int a0), none, none]) rfl ?_
  refine sp_aload_n 1 rfl rfl rfl ?_
  refine hq_getR 4 rfl rfl rfl rfl ?_
  refine hq_getI 7 rfl rfl rfl ?_
  refine sp_sipush 10 rfl rfl ?_
  refine sp_I (y := Int32.ofInt 144) rfl ?_
  refine sp_ic_ne 13 rfl rfl (fun q_ => ?_) (fun q_ => ?_)
  · have k := k.2 q_
    refine sp_aload_n 20 rfl rfl rfl ?_
    refine sp_iload_n 21 rfl rfl rfl ?_
    refine sc_V 24 rfl rfl rfl rfl rfl (Nat.le_refl _) (Nat.le_refl _) rfl ?_
    refine mm_s_mono _ _ _ _ _ _ ?_ k
    rintro r_ h_ ⟨x1, I1, J1, rfl, rfl, k⟩
    refine hs_S (st2 := [.int x1]) rfl ?_
    refine sp_if_ne 27 rfl rfl (fun q_ => ?_) (fun q_ => ?_)
    · have k := k.2 q_
      refine sp_aload_n 30 rfl rfl rfl ?_
      refine hq_getR 33 rfl rfl rfl rfl ?_
      refine hq_getI 36 rfl rfl rfl ?_
      refine hs_istore_n 37 (L2 := [some (.ref 3), some (.int a0), some (.int (I1 4 2)), none]) rfl rfl rfl rfl ?_
      refine sp_iload_n 38 rfl rfl rfl ?_
      refine sp_bipush 40 rfl rfl ?_
      refine sp_I (y := Int32.ofInt 60) rfl ?_
      refine sp_ic_eq 43 rfl rfl (fun q_ => ?_) (fun q_ => ?_)
      · have k := k.1 q_
        refine sp_aload_n 58 rfl rfl rfl ?_
        refine hq_getR 61 rfl rfl rfl rfl ?_
        refine sc_V 64 rfl rfl rfl rfl rfl (Nat.le_refl _) (Nat.le_refl _) rfl ?_
        refine mm_s_mono _ _ _ _ _ _ ?_ k
        rintro r_ h_ ⟨I2, J2, rfl, rfl, k⟩
        refine hs_S (st2 := []) rfl ?_
        refine sp_aload_n 65 rfl rfl rfl ?_
        refine sp_iload_n 66 rfl rfl rfl ?_
        refine sc_V 69 rfl rfl rfl rfl rfl (Nat.le_refl _) (Nat.le_refl _) rfl ?_
        refine mm_s_mono _ _ _ _ _ _ ?_ k
        rintro r_ h_ ⟨x3, I3, J3, rfl, rfl, k⟩
        refine hs_S (st2 := [.int x3]) rfl ?_
        refine hs_istore_n 70 (L2 := [some (.ref 3), some (.int a0), some (.int (I1 4 2)), some (.int x3)]) rfl rfl rfl rfl ?_
        refine sp_aload_n 71 rfl rfl rfl ?_
        refine hq_getR 74 rfl rfl rfl rfl ?_
        refine sp_iload_n 75 rfl rfl rfl ?_
        refine sp_ineg 76 rfl rfl ?_
        refine sc_V 79 rfl rfl (kP0 h_q) rfl rfl (Nat.le_refl _) (Nat.le_refl _) rfl ?_
        refine mm_s_mono _ _ _ _ _ _ ?_ k
        rintro r_ h_ ⟨I4, J4, rfl, rfl, k⟩
        refine hs_S (st2 := []) rfl ?_
        refine sp_iload_n 80 rfl rfl rfl ?_
        exact st_zret rfl rfl k.1 (Nat.le_refl _) (Nat.le_refl _) k.2
      · have k := k.2 q_
        refine sp_iload_n 44 rfl rfl rfl ?_
        refine sp_bipush 46 rfl rfl ?_
        refine sp_I (y := Int32.ofInt 62) rfl ?_
        refine sp_ic_eq 49 rfl rfl (fun q_ => ?_) (fun q_ => ?_)
        · have k := k.1 q_
          refine sp_aload_n 58 rfl rfl rfl ?_
          refine hq_getR 61 rfl rfl rfl rfl ?_
          refine sc_V 64 rfl rfl rfl rfl rfl (Nat.le_refl _) (Nat.le_refl _) rfl ?_
          refine mm_s_mono _ _ _ _ _ _ ?_ k
          rintro r_ h_ ⟨I5, J5, rfl, rfl, k⟩
          refine hs_S (st2 := []) rfl ?_
          refine sp_aload_n 65 rfl rfl rfl ?_
          refine sp_iload_n 66 rfl rfl rfl ?_
          refine sc_V 69 rfl rfl rfl rfl rfl (Nat.le_refl _) (Nat.le_refl _) rfl ?_
          refine mm_s_mono _ _ _ _ _ _ ?_ k
          rintro r_ h_ ⟨x6, I6, J6, rfl, rfl, k⟩
          refine hs_S (st2 := [.int x6]) rfl ?_
          refine hs_istore_n 70 (L2 := [some (.ref 3), some (.int a0), some (.int (I1 4 2)), some (.int x6)]) rfl rfl rfl rfl ?_
          refine sp_aload_n 71 rfl rfl rfl ?_
          refine hq_getR 74 rfl rfl rfl rfl ?_
          refine sp_iload_n 75 rfl rfl rfl ?_
          refine sp_ineg 76 rfl rfl ?_
          refine sc_V 79 rfl rfl (kP0 h_q) rfl rfl (Nat.le_refl _) (Nat.le_refl _) rfl ?_
          refine mm_s_mono _ _ _ _ _ _ ?_ k
          rintro r_ h_ ⟨I7, J7, rfl, rfl, k⟩
          refine hs_S (st2 := []) rfl ?_
          refine sp_iload_n 80 rfl rfl rfl ?_
          exact st_zret rfl rfl k.1 (Nat.le_refl _) (Nat.le_refl _) k.2
        · have k := k.2 q_
          refine sp_iload_n 50 rfl rfl rfl ?_
          refine sp_bipush 52 rfl rfl ?_
          refine sp_I (y := Int32.ofInt 61) rfl ?_
          refine sp_ic_eq 55 rfl rfl (fun q_ => ?_) (fun q_ => ?_)
          · have k := k.1 q_
            refine sp_aload_n 58 rfl rfl rfl ?_
            refine hq_getR 61 rfl rfl rfl rfl ?_
            refine sc_V 64 rfl rfl rfl rfl rfl (Nat.le_refl _) (Nat.le_refl _) rfl ?_
            refine mm_s_mono _ _ _ _ _ _ ?_ k
            rintro r_ h_ ⟨I8, J8, rfl, rfl, k⟩
            refine hs_S (st2 := []) rfl ?_
            refine sp_aload_n 65 rfl rfl rfl ?_
            refine sp_iload_n 66 rfl rfl rfl ?_
            refine sc_V 69 rfl rfl rfl rfl rfl (Nat.le_refl _) (Nat.le_refl _) rfl ?_
            refine mm_s_mono _ _ _ _ _ _ ?_ k
            rintro r_ h_ ⟨x9, I9, J9, rfl, rfl, k⟩
            refine hs_S (st2 := [.int x9]) rfl ?_
            refine hs_istore_n 70 (L2 := [some (.ref 3), some (.int a0), some (.int (I1 4 2)), some (.int x9)]) rfl rfl rfl rfl ?_
            refine sp_aload_n 71 rfl rfl rfl ?_
            refine hq_getR 74 rfl rfl rfl rfl ?_
            refine sp_iload_n 75 rfl rfl rfl ?_
            refine sp_ineg 76 rfl rfl ?_
            refine sc_V 79 rfl rfl (kP0 h_q) rfl rfl (Nat.le_refl _) (Nat.le_refl _) rfl ?_
            refine mm_s_mono _ _ _ _ _ _ ?_ k
            rintro r_ h_ ⟨I10, J10, rfl, rfl, k⟩
            refine hs_S (st2 := []) rfl ?_
            refine sp_iload_n 80 rfl rfl rfl ?_
            exact st_zret rfl rfl k.1 (Nat.le_refl _) (Nat.le_refl _) k.2
          · have k := k.2 q_
            refine sp_iconst 56 rfl rfl ?_
            exact st_zret rfl rfl (by decide) (Nat.le_refl _) (Nat.le_refl _) k
    · have k := k.1 q_
      refine sp_iconst 28 rfl rfl ?_
      exact st_zret rfl rfl (by decide) (Nat.le_refl _) (Nat.le_refl _) k
  · have k := k.1 q_
    refine sp_aload_n 14 rfl rfl rfl ?_
    refine sp_iload_n 15 rfl rfl rfl ?_
    refine sc_V 18 rfl rfl rfl rfl rfl (Nat.le_refl _) (Nat.le_refl _) rfl ?_
    refine mm_s_mono _ _ _ _ _ _ ?_ k
    rintro r_ h_ ⟨x11, I11, J11, rfl, rfl, k⟩
    refine hs_S (st2 := [.int x11]) rfl ?_
    exact st_zret rfl rfl k.1 (Nat.le_refl _) (Nat.le_refl _) k.2
def w_X7_readBoth_8 (SL : Nat) (xs : Nat → Int32) (d : Nat) (p s q : Nat) (Q : Option Value → mm_H → Prop) (v1 : Int32) (v2 : Int32) (v3 : Int32) (I : Nat → Nat → Int32) (J : Nat → Nat → Int64) : Prop := mm_w SL xs (mm_s SL xs (d + 90)) mm_am kX7_readBoth 0 0 (some .boolean) Q 8 [some (.ref 3), some (.int v1), some (.int v2), some (.int v3)] [] (hp p s q I J) 0 0
theorem sg_X7_readBoth {SL : Nat} {xs : Nat → Int32} {d : Nat} {p s q : Nat} {Q : Option Value → mm_H → Prop} {a0 : Int32} {I : Nat → Nat → Int32} {J : Nat → Nat → Int64}  (k : (mm_s SL xs (d + 90) 86 [.ref 3, .int a0] (hp p s q I J) (fun r_ h_ => ∃ x1 I1 J1, r_ = some (.int x1) ∧ h_ = hp p s q I1 J1 ∧ w_X7_readBoth_8 SL xs d p s q Q a0 x1 (Int32.ofInt 0) I1 J1))) : mm_s SL xs (d + 91) 85 [.ref 3, .int a0] (hp p s q I J) Q := by
  refine e_X7_readBoth rfl ?_
  refine hs_L (L2 := [some (.ref 3), some (.int a0), none, none]) rfl ?_
  refine sp_aload_n 1 rfl rfl rfl ?_
  refine sp_iload_n 2 rfl rfl rfl ?_
  refine sc_V 5 rfl rfl rfl rfl rfl (Nat.le_refl _) (Nat.le_refl _) rfl ?_
  refine mm_s_mono _ _ _ _ _ _ ?_ k
  rintro r_ h_ ⟨x1, I1, J1, rfl, rfl, k⟩
  refine hs_S (st2 := [.int x1]) rfl ?_
  refine hs_istore_n 6 (L2 := [some (.ref 3), some (.int a0), some (.int x1), none]) rfl rfl rfl rfl ?_
  refine sp_iconst 7 rfl rfl ?_
  refine hs_istore_n 8 (L2 := [some (.ref 3), some (.int a0), some (.int x1), some (.int (Int32.ofInt 0))]) rfl rfl rfl rfl ?_
  exact k
theorem sg_X7_readBoth_8 {SL : Nat} {xs : Nat → Int32} {d : Nat} {p s q : Nat} {Q : Option Value → mm_H → Prop} {v1 : Int32} {v2 : Int32} {v3 : Int32} {I : Nat → Nat → Int32} {J : Nat → Nat → Int64} (h_q : isP q) (k : (((Int32.ofInt 40) ≤ v3 → ((v2 = 0 ∨ v2 = 1) ∧ Q (some (.int v2)) (hp p s q I J))) ∧ (¬ ((Int32.ofInt 40) ≤ v3) → ((v2 = Int32.ofInt 0 → ((v2 = 0 ∨ v2 = 1) ∧ Q (some (.int v2)) (hp p s q I J))) ∧ (¬ (v2 = Int32.ofInt 0) → (((I 4 2) = (Int32.ofInt 143) → (mm_s SL xs (d + 90) 105 [.ref 4] (hp p s q I J) (fun r_ h_ => ∃ I1 J1, r_ = none ∧ h_ = hp p s q I1 J1 ∧ (mm_s SL xs (d + 90) 86 [.ref 3, .int v1] (hp p s q I1 J1) (fun r_ h_ => ∃ x2 I2 J2, r_ = some (.int x2) ∧ h_ = hp p s q I2 J2 ∧ (mm_s SL xs (d + 90) 58 [.ref q, .int (Int32.ofInt (-143))] (hp p s q I2 J2) (fun r_ h_ => ∃ I3 J3, r_ = none ∧ h_ = hp p s q I3 J3 ∧ w_X7_readBoth_8 SL xs d p s q Q v1 x2 (v3 + Int32.ofInt 1) I3 J3))))))) ∧ (¬ ((I 4 2) = (Int32.ofInt 143)) → ((v2 = 0 ∨ v2 = 1) ∧ Q (some (.int v2)) (hp p s q I J))))))))) : w_X7_readBoth_8 SL xs d p s q Q v1 v2 v3 I J := by
  unfold w_X7_readBoth_8
  refine sp_iload_n 9 rfl rfl rfl ?_
  refine sp_bipush 11 rfl rfl ?_
  refine sp_I (y := Int32.ofInt 40) rfl ?_
  refine sp_ic_ge 14 rfl rfl (fun q_ => ?_) (fun q_ => ?_)
  · have k := k.1 q_
    refine sp_iload_n 61 rfl rfl rfl ?_
    exact st_zret rfl rfl k.1 (Nat.le_refl _) (Nat.le_refl _) k.2
  · have k := k.2 q_
    refine sp_iload_n 15 rfl rfl rfl ?_
    refine sp_if_eq 18 rfl rfl (fun q_ => ?_) (fun q_ => ?_)
    · have k := k.1 q_
      refine sp_iload_n 61 rfl rfl rfl ?_
      exact st_zret rfl rfl k.1 (Nat.le_refl _) (Nat.le_refl _) k.2
    · have k := k.2 q_
      refine sp_aload_n 19 rfl rfl rfl ?_
      refine hq_getR 22 rfl rfl rfl rfl ?_
      refine hq_getI 25 rfl rfl rfl ?_
      refine sp_sipush 28 rfl rfl ?_
      refine sp_I (y := Int32.ofInt 143) rfl ?_
      refine sp_ic_ne 31 rfl rfl (fun q_ => ?_) (fun q_ => ?_)
      · have k := k.2 q_
        refine sp_iload_n 61 rfl rfl rfl ?_
        exact st_zret rfl rfl k.1 (Nat.le_refl _) (Nat.le_refl _) k.2
      · have k := k.1 q_
        refine sp_aload_n 32 rfl rfl rfl ?_
        refine hq_getR 35 rfl rfl rfl rfl ?_
        refine sc_V 38 rfl rfl rfl rfl rfl (Nat.le_refl _) (Nat.le_refl _) rfl ?_
        refine mm_s_mono _ _ _ _ _ _ ?_ k
        rintro r_ h_ ⟨I1, J1, rfl, rfl, k⟩
        refine hs_S (st2 := []) rfl ?_
        refine sp_aload_n 39 rfl rfl rfl ?_
        refine sp_iload_n 40 rfl rfl rfl ?_
        refine sc_V 43 rfl rfl rfl rfl rfl (Nat.le_refl _) (Nat.le_refl _) rfl ?_
        refine mm_s_mono _ _ _ _ _ _ ?_ k
        rintro r_ h_ ⟨x2, I2, J2, rfl, rfl, k⟩
        refine hs_S (st2 := [.int x2]) rfl ?_
        refine hs_istore_n 44 (L2 := [some (.ref 3), some (.int v1), some (.int x2), some (.int v3)]) rfl rfl rfl rfl ?_
        refine sp_aload_n 45 rfl rfl rfl ?_
        refine hq_getR 48 rfl rfl rfl rfl ?_
        refine sp_sipush 51 rfl rfl ?_
        refine sp_I (y := Int32.ofInt (-143)) rfl ?_
        refine sc_V 54 rfl rfl (kP0 h_q) rfl rfl (Nat.le_refl _) (Nat.le_refl _) rfl ?_
        refine mm_s_mono _ _ _ _ _ _ ?_ k
        rintro r_ h_ ⟨I3, J3, rfl, rfl, k⟩
        refine hs_S (st2 := []) rfl ?_
        refine hs_iinc 57 (L2 := [some (.ref 3), some (.int v1), some (.int x2), some (.int (v3 + Int32.ofInt 1))]) rfl rfl rfl rfl rfl ?_
        refine sp_goto rfl ?_
        exact k
def w_X7_readEither_8 (SL : Nat) (xs : Nat → Int32) (d : Nat) (p s q : Nat) (Q : Option Value → mm_H → Prop) (v1 : Int32) (v2 : Int32) (v3 : Int32) (I : Nat → Nat → Int32) (J : Nat → Nat → Int64) : Prop := mm_w SL xs (mm_s SL xs (d + 90)) mm_am kX7_readEither 0 0 (some .boolean) Q 8 [some (.ref 3), some (.int v1), some (.int v2), some (.int v3)] [] (hp p s q I J) 0 0
theorem sg_X7_readEither {SL : Nat} {xs : Nat → Int32} {d : Nat} {p s q : Nat} {Q : Option Value → mm_H → Prop} {a0 : Int32} {I : Nat → Nat → Int32} {J : Nat → Nat → Int64}  (k : (mm_s SL xs (d + 90) 85 [.ref 3, .int a0] (hp p s q I J) (fun r_ h_ => ∃ x1 I1 J1, r_ = some (.int x1) ∧ h_ = hp p s q I1 J1 ∧ w_X7_readEither_8 SL xs d p s q Q a0 x1 (Int32.ofInt 0) I1 J1))) : mm_s SL xs (d + 91) 84 [.ref 3, .int a0] (hp p s q I J) Q := by
  refine e_X7_readEither rfl ?_
  refine hs_L (L2 := [some (.ref 3), some (.int a0), none, none]) rfl ?_
  refine sp_aload_n 1 rfl rfl rfl ?_
  refine sp_iload_n 2 rfl rfl rfl ?_
  refine sc_V 5 rfl rfl rfl rfl rfl (Nat.le_refl _) (Nat.le_refl _) rfl ?_
  refine mm_s_mono _ _ _ _ _ _ ?_ k
  rintro r_ h_ ⟨x1, I1, J1, rfl, rfl, k⟩
  refine hs_S (st2 := [.int x1]) rfl ?_
  refine hs_istore_n 6 (L2 := [some (.ref 3), some (.int a0), some (.int x1), none]) rfl rfl rfl rfl ?_
  refine sp_iconst 7 rfl rfl ?_
  refine hs_istore_n 8 (L2 := [some (.ref 3), some (.int a0), some (.int x1), some (.int (Int32.ofInt 0))]) rfl rfl rfl rfl ?_
  exact k
theorem sg_X7_readEither_8 {SL : Nat} {xs : Nat → Int32} {d : Nat} {p s q : Nat} {Q : Option Value → mm_H → Prop} {v1 : Int32} {v2 : Int32} {v3 : Int32} {I : Nat → Nat → Int32} {J : Nat → Nat → Int64} (h_q : isP q) (k : (((Int32.ofInt 40) ≤ v3 → ((v2 = 0 ∨ v2 = 1) ∧ Q (some (.int v2)) (hp p s q I J))) ∧ (¬ ((Int32.ofInt 40) ≤ v3) → ((v2 = Int32.ofInt 0 → ((v2 = 0 ∨ v2 = 1) ∧ Q (some (.int v2)) (hp p s q I J))) ∧ (¬ (v2 = Int32.ofInt 0) → (((I 4 2) = (Int32.ofInt 142) → (mm_s SL xs (d + 90) 105 [.ref 4] (hp p s q I J) (fun r_ h_ => ∃ I1 J1, r_ = none ∧ h_ = hp p s q I1 J1 ∧ (mm_s SL xs (d + 90) 85 [.ref 3, .int v1] (hp p s q I1 J1) (fun r_ h_ => ∃ x2 I2 J2, r_ = some (.int x2) ∧ h_ = hp p s q I2 J2 ∧ (mm_s SL xs (d + 90) 58 [.ref q, .int (Int32.ofInt (-142))] (hp p s q I2 J2) (fun r_ h_ => ∃ I3 J3, r_ = none ∧ h_ = hp p s q I3 J3 ∧ w_X7_readEither_8 SL xs d p s q Q v1 x2 (v3 + Int32.ofInt 1) I3 J3))))))) ∧ (¬ ((I 4 2) = (Int32.ofInt 142)) → ((v2 = 0 ∨ v2 = 1) ∧ Q (some (.int v2)) (hp p s q I J))))))))) : w_X7_readEither_8 SL xs d p s q Q v1 v2 v3 I J := by
  unfold w_X7_readEither_8
  refine sp_iload_n 9 rfl rfl rfl ?_
  refine sp_bipush 11 rfl rfl ?_
  refine sp_I (y := Int32.ofInt 40) rfl ?_
  refine sp_ic_ge 14 rfl rfl (fun q_ => ?_) (fun q_ => ?_)
  · have k := k.1 q_
    refine sp_iload_n 61 rfl rfl rfl ?_
    exact st_zret rfl rfl k.1 (Nat.le_refl _) (Nat.le_refl _) k.2
  · have k := k.2 q_
    refine sp_iload_n 15 rfl rfl rfl ?_
    refine sp_if_eq 18 rfl rfl (fun q_ => ?_) (fun q_ => ?_)
    · have k := k.1 q_
      refine sp_iload_n 61 rfl rfl rfl ?_
      exact st_zret rfl rfl k.1 (Nat.le_refl _) (Nat.le_refl _) k.2
    · have k := k.2 q_
      refine sp_aload_n 19 rfl rfl rfl ?_
      refine hq_getR 22 rfl rfl rfl rfl ?_
      refine hq_getI 25 rfl rfl rfl ?_
      refine sp_sipush 28 rfl rfl ?_
      refine sp_I (y := Int32.ofInt 142) rfl ?_
      refine sp_ic_ne 31 rfl rfl (fun q_ => ?_) (fun q_ => ?_)
      · have k := k.2 q_
        refine sp_iload_n 61 rfl rfl rfl ?_
        exact st_zret rfl rfl k.1 (Nat.le_refl _) (Nat.le_refl _) k.2
      · have k := k.1 q_
        refine sp_aload_n 32 rfl rfl rfl ?_
        refine hq_getR 35 rfl rfl rfl rfl ?_
        refine sc_V 38 rfl rfl rfl rfl rfl (Nat.le_refl _) (Nat.le_refl _) rfl ?_
        refine mm_s_mono _ _ _ _ _ _ ?_ k
        rintro r_ h_ ⟨I1, J1, rfl, rfl, k⟩
        refine hs_S (st2 := []) rfl ?_
        refine sp_aload_n 39 rfl rfl rfl ?_
        refine sp_iload_n 40 rfl rfl rfl ?_
        refine sc_V 43 rfl rfl rfl rfl rfl (Nat.le_refl _) (Nat.le_refl _) rfl ?_
        refine mm_s_mono _ _ _ _ _ _ ?_ k
        rintro r_ h_ ⟨x2, I2, J2, rfl, rfl, k⟩
        refine hs_S (st2 := [.int x2]) rfl ?_
        refine hs_istore_n 44 (L2 := [some (.ref 3), some (.int v1), some (.int x2), some (.int v3)]) rfl rfl rfl rfl ?_
        refine sp_aload_n 45 rfl rfl rfl ?_
        refine hq_getR 48 rfl rfl rfl rfl ?_
        refine sp_sipush 51 rfl rfl ?_
        refine sp_I (y := Int32.ofInt (-142)) rfl ?_
        refine sc_V 54 rfl rfl (kP0 h_q) rfl rfl (Nat.le_refl _) (Nat.le_refl _) rfl ?_
        refine mm_s_mono _ _ _ _ _ _ ?_ k
        rintro r_ h_ ⟨I3, J3, rfl, rfl, k⟩
        refine hs_S (st2 := []) rfl ?_
        refine hs_iinc 57 (L2 := [some (.ref 3), some (.int v1), some (.int x2), some (.int (v3 + Int32.ofInt 1))]) rfl rfl rfl rfl rfl ?_
        refine sp_goto rfl ?_
        exact k
def w_X7_readLine_30 (SL : Nat) (xs : Nat → Int32) (d : Nat) (p s q : Nat) (Q : Option Value → mm_H → Prop) (v1 : Int32) (I : Nat → Nat → Int32) (J : Nat → Nat → Int64) : Prop := mm_w SL xs (mm_s SL xs (d + 90)) mm_am kX7_readLine 0 0 (some .boolean) Q 30 [some (.ref 3), some (.int v1), none] [] (hp p s q I J) 0 0
def w_X7_readLine_61 (SL : Nat) (xs : Nat → Int32) (d : Nat) (p s q : Nat) (Q : Option Value → mm_H → Prop) (v1 : Int32) (I : Nat → Nat → Int32) (J : Nat → Nat → Int64) : Prop := mm_w SL xs (mm_s SL xs (d + 90)) mm_am kX7_readLine 0 0 (some .boolean) Q 61 [some (.ref 3), some (.int v1), none] [] (hp p s q I J) 0 0
def w_X7_readLine_157 (SL : Nat) (xs : Nat → Int32) (d : Nat) (p s q : Nat) (Q : Option Value → mm_H → Prop) (v1 : Int32) (I : Nat → Nat → Int32) (J : Nat → Nat → Int64) : Prop := mm_w SL xs (mm_s SL xs (d + 90)) mm_am kX7_readLine 0 0 (some .boolean) Q 157 [some (.ref 3), some (.int v1), none] [] (hp p s q I J) 0 0
def w_X7_readLine_163 (SL : Nat) (xs : Nat → Int32) (d : Nat) (p s q : Nat) (Q : Option Value → mm_H → Prop) (v1 : Int32) (v2 : Int32) (I : Nat → Nat → Int32) (J : Nat → Nat → Int64) : Prop := mm_w SL xs (mm_s SL xs (d + 90)) mm_am kX7_readLine 0 0 (some .boolean) Q 163 [some (.ref 3), some (.int v1), some (.int v2)] [] (hp p s q I J) 0 0
def w_X7_readLine_180 (SL : Nat) (xs : Nat → Int32) (d : Nat) (p s q : Nat) (Q : Option Value → mm_H → Prop) (v1 : Int32) (v2 : Int32) (I : Nat → Nat → Int32) (J : Nat → Nat → Int64) : Prop := mm_w SL xs (mm_s SL xs (d + 90)) mm_am kX7_readLine 0 0 (some .boolean) Q 180 [some (.ref 3), some (.int v1), some (.int v2)] [] (hp p s q I J) 0 0
theorem sg_X7_readLine {SL : Nat} {xs : Nat → Int32} {d : Nat} {p s q : Nat} {Q : Option Value → mm_H → Prop}  {I : Nat → Nat → Int32} {J : Nat → Nat → Int64} (h_q : isP q) (k : (((I 4 2) < (Int32.ofInt 128) → w_X7_readLine_30 SL xs d p s q Q (I 4 2) I J) ∧ (¬ ((I 4 2) < (Int32.ofInt 128)) → (((Int32.ofInt 138) < (I 4 2) → w_X7_readLine_30 SL xs d p s q Q (I 4 2) I J) ∧ (¬ ((Int32.ofInt 138) < (I 4 2)) → (mm_s SL xs (d + 90) 77 [.ref 3, .int (I 4 2)] (hp p s q I J) (fun r_ h_ => ∃ x1 I1 J1, r_ = some (.int x1) ∧ h_ = hp p s q I1 J1 ∧ ((x1 = Int32.ofInt 0 → (vp_in ((I 4 2) - (Int32.ofInt 128)) 11 ∧ (((I 4 2) = (Int32.ofInt 131) → (mm_s SL xs (d + 90) 57 [.ref q] (hp p s q (mm_u I1 14 ((((I 4 2) - (Int32.ofInt 128))).toNatClampNeg) (Int32.ofInt 1)) J1) (fun r_ h_ => ∃ I2 J2, r_ = none ∧ h_ = hp p s q I2 J2 ∧ w_X7_readLine_61 SL xs d p s q Q (I 4 2) I2 J2))) ∧ (¬ ((I 4 2) = (Int32.ofInt 131)) → w_X7_readLine_61 SL xs d p s q Q (I 4 2) (mm_u I1 14 ((((I 4 2) - (Int32.ofInt 128))).toNatClampNeg) (Int32.ofInt 1)) J1)))) ∧ (¬ (x1 = Int32.ofInt 0) → w_X7_readLine_30 SL xs d p s q Q (I 4 2) I1 J1))))))))) : mm_s SL xs (d + 91) 76 [.ref 3] (hp p s q I J) Q := by
  refine e_X7_readLine rfl ?_
  refine hs_L (L2 := [some (.ref 3), none, none]) rfl ?_
  refine sp_aload_n 1 rfl rfl rfl ?_
  refine hq_getR 4 rfl rfl rfl rfl ?_
  refine hq_getI 7 rfl rfl rfl ?_
  refine hs_istore_n 8 (L2 := [some (.ref 3), some (.int (I 4 2)), none]) rfl rfl rfl rfl ?_
  refine sp_iload_n 9 rfl rfl rfl ?_
  refine sp_sipush 12 rfl rfl ?_
  refine sp_I (y := Int32.ofInt 128) rfl ?_
  refine sp_ic_lt 15 rfl rfl (fun q_ => ?_) (fun q_ => ?_)
  · have k := k.1 q_
    exact k
  · have k := k.2 q_
    refine sp_iload_n 16 rfl rfl rfl ?_
    refine sp_sipush 19 rfl rfl ?_
    refine sp_I (y := Int32.ofInt 138) rfl ?_
    refine sp_ic_gt 22 rfl rfl (fun q_ => ?_) (fun q_ => ?_)
    · have k := k.1 q_
      exact k
    · have k := k.2 q_
      refine sp_aload_n 23 rfl rfl rfl ?_
      refine sp_iload_n 24 rfl rfl rfl ?_
      refine sc_V 27 rfl rfl rfl rfl rfl (Nat.le_refl _) (Nat.le_refl _) rfl ?_
      refine mm_s_mono _ _ _ _ _ _ ?_ k
      rintro r_ h_ ⟨x1, I1, J1, rfl, rfl, k⟩
      refine hs_S (st2 := [.int x1]) rfl ?_
      refine sp_if_eq 30 rfl rfl (fun q_ => ?_) (fun q_ => ?_)
      · have k := k.1 q_
        refine sp_aload_n 37 rfl rfl rfl ?_
        refine hq_getR 40 rfl rfl rfl rfl ?_
        refine sp_iload_n 41 rfl rfl rfl ?_
        refine sp_sipush 44 rfl rfl ?_
        refine sp_I (y := Int32.ofInt 128) rfl ?_
        refine sp_isub 45 rfl rfl ?_
        refine sp_iconst 46 rfl rfl ?_
        have n1_ := k.1
        have k := k.2
        refine hq_zast 47 rfl rfl n1_ (by decide) rfl ?_
        refine sp_iload_n 48 rfl rfl rfl ?_
        refine sp_sipush 51 rfl rfl ?_
        refine sp_I (y := Int32.ofInt 131) rfl ?_
        refine sp_ic_ne 54 rfl rfl (fun q_ => ?_) (fun q_ => ?_)
        · have k := k.2 q_
          exact k
        · have k := k.1 q_
          refine sp_aload_n 55 rfl rfl rfl ?_
          refine hq_getR 58 rfl rfl rfl rfl ?_
          refine sc_V 61 rfl rfl (kP0 h_q) rfl rfl (Nat.le_refl _) (Nat.le_refl _) rfl ?_
          refine mm_s_mono _ _ _ _ _ _ ?_ k
          rintro r_ h_ ⟨I2, J2, rfl, rfl, k⟩
          refine hs_S (st2 := []) rfl ?_
          exact k
      · have k := k.2 q_
        exact k
theorem sg_X7_readLine_30 {SL : Nat} {xs : Nat → Int32} {d : Nat} {p s q : Nat} {Q : Option Value → mm_H → Prop} {v1 : Int32} {I : Nat → Nat → Int32} {J : Nat → Nat → Int64}  (k : (mm_s SL xs (d + 90) 74 [.ref 3, .int (Int32.ofInt 2)] (hp p s q I J) (fun r_ h_ => ∃ x1 I1 J1, r_ = some (.int x1) ∧ h_ = hp p s q I1 J1 ∧ ((x1 = 0 ∨ x1 = 1) ∧ Q (some (.int x1)) (hp p s q I1 J1))))) : w_X7_readLine_30 SL xs d p s q Q v1 I J := by
  unfold w_X7_readLine_30
  refine sp_aload_n 31 rfl rfl rfl ?_
  refine sp_iconst 32 rfl rfl ?_
  refine sc_V 35 rfl rfl rfl rfl rfl (Nat.le_refl _) (Nat.le_refl _) rfl ?_
  refine mm_s_mono _ _ _ _ _ _ ?_ k
  rintro r_ h_ ⟨x1, I1, J1, rfl, rfl, k⟩
  refine hs_S (st2 := [.int x1]) rfl ?_
  exact st_zret rfl rfl k.1 (Nat.le_refl _) (Nat.le_refl _) k.2
theorem sg_X7_readLine_61 {SL : Nat} {xs : Nat → Int32} {d : Nat} {p s q : Nat} {Q : Option Value → mm_H → Prop} {v1 : Int32} {I : Nat → Nat → Int32} {J : Nat → Nat → Int64}  (k : (mm_s SL xs (d + 90) 105 [.ref 4] (hp p s q I J) (fun r_ h_ => ∃ I1 J1, r_ = none ∧ h_ = hp p s q I1 J1 ∧ ((v1 = Int32.ofInt 131 → (mm_s SL xs (d + 90) 84 [.ref 3, .int (Int32.ofInt 0)] (hp p s q I1 J1) (fun r_ h_ => ∃ x2 I2 J2, r_ = some (.int x2) ∧ h_ = hp p s q I2 J2 ∧ w_X7_readLine_163 SL xs d p s q Q v1 x2 I2 J2))) ∧ (v1 = Int32.ofInt 135 → (mm_s SL xs (d + 90) 80 [.ref 3] (hp p s q I1 J1) (fun r_ h_ => ∃ x3 I3 J3, r_ = some (.int x3) ∧ h_ = hp p s q I3 J3 ∧ w_X7_readLine_163 SL xs d p s q Q v1 x3 I3 J3))) ∧ (v1 = Int32.ofInt 136 → (mm_s SL xs (d + 90) 81 [.ref 3] (hp p s q I1 J1) (fun r_ h_ => ∃ x4 I4 J4, r_ = some (.int x4) ∧ h_ = hp p s q I4 J4 ∧ w_X7_readLine_163 SL xs d p s q Q v1 x4 I4 J4))) ∧ (v1 = Int32.ofInt 137 → (mm_s SL xs (d + 90) 82 [.ref 3] (hp p s q I1 J1) (fun r_ h_ => ∃ x5 I5 J5, r_ = some (.int x5) ∧ h_ = hp p s q I5 J5 ∧ w_X7_readLine_163 SL xs d p s q Q v1 x5 I5 J5))) ∧ (v1 = Int32.ofInt 138 → (mm_s SL xs (d + 90) 83 [.ref 3] (hp p s q I1 J1) (fun r_ h_ => ∃ x6 I6 J6, r_ = some (.int x6) ∧ h_ = hp p s q I6 J6 ∧ w_X7_readLine_163 SL xs d p s q Q v1 x6 I6 J6))) ∧ (¬ v1 = Int32.ofInt 131 → ¬ v1 = Int32.ofInt 135 → ¬ v1 = Int32.ofInt 136 → ¬ v1 = Int32.ofInt 137 → ¬ v1 = Int32.ofInt 138 → w_X7_readLine_157 SL xs d p s q Q v1 I1 J1))))) : w_X7_readLine_61 SL xs d p s q Q v1 I J := by
  unfold w_X7_readLine_61
  refine sp_aload_n 62 rfl rfl rfl ?_
  refine hq_getR 65 rfl rfl rfl rfl ?_
  refine sc_V 68 rfl rfl rfl rfl rfl (Nat.le_refl _) (Nat.le_refl _) rfl ?_
  refine mm_s_mono _ _ _ _ _ _ ?_ k
  rintro r_ h_ ⟨I1, J1, rfl, rfl, k⟩
  refine hs_S (st2 := []) rfl ?_
  refine sp_iload_n 69 rfl rfl rfl ?_
  by_cases q69_0 : v1 = Int32.ofInt 131
  · have k := k.1 q69_0
    refine sp_table (t := 116) rfl (by rw [q69_0]; rfl) ?_
    refine sp_aload_n 117 rfl rfl rfl ?_
    refine sp_iconst 118 rfl rfl ?_
    refine sc_V 121 rfl rfl rfl rfl rfl (Nat.le_refl _) (Nat.le_refl _) rfl ?_
    refine mm_s_mono _ _ _ _ _ _ ?_ k
    rintro r_ h_ ⟨x2, I2, J2, rfl, rfl, k⟩
    refine hs_S (st2 := [.int x2]) rfl ?_
    refine hs_istore_n 122 (L2 := [some (.ref 3), some (.int v1), some (.int x2)]) rfl rfl rfl rfl ?_
    refine sp_goto rfl ?_
    exact k
  · skip
    by_cases q69_1 : v1 = Int32.ofInt 135
    · have k := k.2.1 q69_1
      refine sp_table (t := 125) rfl (by rw [q69_1]; rfl) ?_
      refine sp_aload_n 126 rfl rfl rfl ?_
      refine sc_V 129 rfl rfl rfl rfl rfl (Nat.le_refl _) (Nat.le_refl _) rfl ?_
      refine mm_s_mono _ _ _ _ _ _ ?_ k
      rintro r_ h_ ⟨x3, I3, J3, rfl, rfl, k⟩
      refine hs_S (st2 := [.int x3]) rfl ?_
      refine hs_istore_n 130 (L2 := [some (.ref 3), some (.int v1), some (.int x3)]) rfl rfl rfl rfl ?_
      refine sp_goto rfl ?_
      exact k
    · skip
      by_cases q69_2 : v1 = Int32.ofInt 136
      · have k := k.2.2.1 q69_2
        refine sp_table (t := 133) rfl (by rw [q69_2]; rfl) ?_
        refine sp_aload_n 134 rfl rfl rfl ?_
        refine sc_V 137 rfl rfl rfl rfl rfl (Nat.le_refl _) (Nat.le_refl _) rfl ?_
        refine mm_s_mono _ _ _ _ _ _ ?_ k
        rintro r_ h_ ⟨x4, I4, J4, rfl, rfl, k⟩
        refine hs_S (st2 := [.int x4]) rfl ?_
        refine hs_istore_n 138 (L2 := [some (.ref 3), some (.int v1), some (.int x4)]) rfl rfl rfl rfl ?_
        refine sp_goto rfl ?_
        exact k
      · skip
        by_cases q69_3 : v1 = Int32.ofInt 137
        · have k := k.2.2.2.1 q69_3
          refine sp_table (t := 141) rfl (by rw [q69_3]; rfl) ?_
          refine sp_aload_n 142 rfl rfl rfl ?_
          refine sc_V 145 rfl rfl rfl rfl rfl (Nat.le_refl _) (Nat.le_refl _) rfl ?_
          refine mm_s_mono _ _ _ _ _ _ ?_ k
          rintro r_ h_ ⟨x5, I5, J5, rfl, rfl, k⟩
          refine hs_S (st2 := [.int x5]) rfl ?_
          refine hs_istore_n 146 (L2 := [some (.ref 3), some (.int v1), some (.int x5)]) rfl rfl rfl rfl ?_
          refine sp_goto rfl ?_
          exact k
        · skip
          by_cases q69_4 : v1 = Int32.ofInt 138
          · have k := k.2.2.2.2.1 q69_4
            refine sp_table (t := 149) rfl (by rw [q69_4]; rfl) ?_
            refine sp_aload_n 150 rfl rfl rfl ?_
            refine sc_V 153 rfl rfl rfl rfl rfl (Nat.le_refl _) (Nat.le_refl _) rfl ?_
            refine mm_s_mono _ _ _ _ _ _ ?_ k
            rintro r_ h_ ⟨x6, I6, J6, rfl, rfl, k⟩
            refine hs_S (st2 := [.int x6]) rfl ?_
            refine hs_istore_n 154 (L2 := [some (.ref 3), some (.int v1), some (.int x6)]) rfl rfl rfl rfl ?_
            refine sp_goto rfl ?_
            exact k
          · skip
            have k := k.2.2.2.2.2 q69_0 q69_1 q69_2 q69_3 q69_4
            refine sp_table (t := 157) rfl ?_ ?_
            · unfold mm_tab
              rcases Classical.em (v1.toInt < 131 ∨ 138 < v1.toInt) with z | z
              · rw [if_pos z]; rfl
              · rw [if_neg z]
                have : v1.toInt = 132 ∨ v1.toInt = 133 ∨ v1.toInt = 134 := by
                  have := tb_ne q69_0; have := tb_ne q69_1; have := tb_ne q69_2; have := tb_ne q69_3; have := tb_ne q69_4
                  omega
                rcases this with e_ | e_ | e_ <;> (rw [e_]; rfl)
            · skip
              exact k
theorem sg_X7_readLine_157 {SL : Nat} {xs : Nat → Int32} {d : Nat} {p s q : Nat} {Q : Option Value → mm_H → Prop} {v1 : Int32} {I : Nat → Nat → Int32} {J : Nat → Nat → Int64}  (k : (mm_s SL xs (d + 90) 79 [.ref 3, .int v1] (hp p s q I J) (fun r_ h_ => ∃ x1 I1 J1, r_ = some (.int x1) ∧ h_ = hp p s q I1 J1 ∧ w_X7_readLine_163 SL xs d p s q Q v1 x1 I1 J1))) : w_X7_readLine_157 SL xs d p s q Q v1 I J := by
  unfold w_X7_readLine_157
  refine sp_aload_n 158 rfl rfl rfl ?_
  refine sp_iload_n 159 rfl rfl rfl ?_
  refine sc_V 162 rfl rfl rfl rfl rfl (Nat.le_refl _) (Nat.le_refl _) rfl ?_
  refine mm_s_mono _ _ _ _ _ _ ?_ k
  rintro r_ h_ ⟨x1, I1, J1, rfl, rfl, k⟩
  refine hs_S (st2 := [.int x1]) rfl ?_
  refine hs_istore_n 163 (L2 := [some (.ref 3), some (.int v1), some (.int x1)]) rfl rfl rfl rfl ?_
  exact k
theorem sg_X7_readLine_163 {SL : Nat} {xs : Nat → Int32} {d : Nat} {p s q : Nat} {Q : Option Value → mm_H → Prop} {v1 : Int32} {v2 : Int32} {I : Nat → Nat → Int32} {J : Nat → Nat → Int64}  (k : ((v2 = Int32.ofInt 0 → w_X7_readLine_180 SL xs d p s q Q v1 v2 I J) ∧ (¬ (v2 = Int32.ofInt 0) → (mm_s SL xs (d + 90) 75 [.ref 3, .int (Int32.ofInt 59)] (hp p s q I J) (fun r_ h_ => ∃ x1 I1 J1, r_ = some (.int x1) ∧ h_ = hp p s q I1 J1 ∧ ((x1 = Int32.ofInt 0 → w_X7_readLine_180 SL xs d p s q Q v1 v2 I1 J1) ∧ (¬ (x1 = Int32.ofInt 0) → Q (some (.int (Int32.ofInt 1))) (hp p s q I1 J1)))))))) : w_X7_readLine_163 SL xs d p s q Q v1 v2 I J := by
  unfold w_X7_readLine_163
  refine sp_iload_n 164 rfl rfl rfl ?_
  refine sp_if_eq 167 rfl rfl (fun q_ => ?_) (fun q_ => ?_)
  · have k := k.1 q_
    exact k
  · have k := k.2 q_
    refine sp_aload_n 168 rfl rfl rfl ?_
    refine sp_bipush 170 rfl rfl ?_
    refine sp_I (y := Int32.ofInt 59) rfl ?_
    refine sc_V 173 rfl rfl rfl rfl rfl (Nat.le_refl _) (Nat.le_refl _) rfl ?_
    refine mm_s_mono _ _ _ _ _ _ ?_ k
    rintro r_ h_ ⟨x1, I1, J1, rfl, rfl, k⟩
    refine hs_S (st2 := [.int x1]) rfl ?_
    refine sp_if_eq 176 rfl rfl (fun q_ => ?_) (fun q_ => ?_)
    · have k := k.1 q_
      exact k
    · have k := k.2 q_
      refine sp_iconst 177 rfl rfl ?_
      refine sp_goto rfl ?_
      exact st_zret rfl rfl (by decide) (Nat.le_refl _) (Nat.le_refl _) k
theorem sg_X7_readLine_180 {SL : Nat} {xs : Nat → Int32} {d : Nat} {p s q : Nat} {Q : Option Value → mm_H → Prop} {v1 : Int32} {v2 : Int32} {I : Nat → Nat → Int32} {J : Nat → Nat → Int64}  (k : Q (some (.int (Int32.ofInt 0))) (hp p s q I J)) : w_X7_readLine_180 SL xs d p s q Q v1 v2 I J := by
  unfold w_X7_readLine_180
  refine sp_iconst 181 rfl rfl ?_
  exact st_zret rfl rfl (by decide) (Nat.le_refl _) (Nat.le_refl _) k
