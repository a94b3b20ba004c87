theorem sg_X10_left {SL : Nat} {xs : Nat → Int32} {d : Nat} {p s q : Nat} {Q : Option Value → mm_H → Prop}  {I : Nat → Nat → Int32} {J : Nat → Nat → Int64} (h_p : isP p) (k : (mm_s SL xs (d + 7) 1 [.ref 20, .ref p, .ref 15, .int (I p 2)] (hp p s q I J) (fun r_ h_ => ∃ x1 I1 J1, r_ = some (.long x1) ∧ h_ = hp p s q I1 J1 ∧ Q (some (.long x1)) (hp p s q I1 J1)))) : mm_s SL xs (d + 8) 123 [.ref 2] (hp p s q I J) Q := by
  refine e_X10_left rfl ?_
  refine hs_L (L2 := [some (.ref 2)]) rfl ?_
  refine sp_aload_n 1 rfl rfl rfl ?_
  refine hq_getR 4 rfl rfl rfl rfl ?_
  refine sp_aload_n 5 rfl rfl rfl ?_
  refine hq_getR 8 rfl rfl rfl rfl ?_
  refine sp_aload_n 9 rfl rfl rfl ?_
  refine hq_getR 12 rfl rfl rfl rfl ?_
  refine sp_aload_n 13 rfl rfl rfl ?_
  refine hq_getR 16 rfl rfl rfl rfl ?_
  refine hq_getI 19 rfl (kP0 h_p) rfl ?_
  refine sc_V 22 rfl rfl rfl rfl rfl (Nat.le_refl _) (Nat.le_refl _) rfl ?_
  refine mm_s_mono _ _ _ _ _ _ ?_ k
  rintro r_ h_ ⟨x1, I1, J1, rfl, rfl, k⟩
  refine hs_S (st2 := [.long x1]) rfl ?_
  exact st_lret rfl rfl (Nat.le_refl _) (Nat.le_refl _) k
theorem sg_X10_late {SL : Nat} {xs : Nat → Int32} {d : Nat} {p s q : Nat} {Q : Option Value → mm_H → Prop} {a0 : Int32} {I : Nat → Nat → Int32} {J : Nat → Nat → Int64}  (k : ((a0 < Int32.ofInt 0 → Q (some (.long (Int64.ofInt (-1)))) (hp p s q I J)) ∧ (¬ (a0 < Int32.ofInt 0) → ((a0 ≤ (Int32.ofInt 300) → (mm_s SL xs (d + 7) 3 [.ref 20, .ref p, .ref 15, .int a0] (hp p s q I J) (fun r_ h_ => ∃ x1 I1 J1, r_ = some (.long x1) ∧ h_ = hp p s q I1 J1 ∧ Q (some (.long x1)) (hp p s q I1 J1)))) ∧ (¬ (a0 ≤ (Int32.ofInt 300)) → Q (some (.long (Int64.ofInt (-1)))) (hp p s q I J)))))) : mm_s SL xs (d + 8) 125 [.ref 2, .int a0] (hp p s q I J) Q := by
  refine e_X10_late rfl ?_
  refine hs_L (L2 := [some (.ref 2), some (.int a0)]) rfl ?_
  refine sp_iload_n 1 rfl rfl rfl ?_
  refine sp_if_lt 4 rfl rfl (fun q_ => ?_) (fun q_ => ?_)
  · have k := k.1 q_
    refine sp_ldc2 14 rfl rfl ?_
    refine sp_goto rfl ?_
    exact st_lret rfl rfl (Nat.le_refl _) (Nat.le_refl _) k
  · have k := k.2 q_
    refine sp_iload_n 5 rfl rfl rfl ?_
    refine sp_sipush 8 rfl rfl ?_
    refine sp_I (y := Int32.ofInt 300) rfl ?_
    refine sp_ic_le 11 rfl rfl (fun q_ => ?_) (fun q_ => ?_)
    · have k := k.1 q_
      refine sp_aload_n 18 rfl rfl rfl ?_
      refine hq_getR 21 rfl rfl rfl rfl ?_
      refine sp_aload_n 22 rfl rfl rfl ?_
      refine hq_getR 25 rfl rfl rfl rfl ?_
      refine sp_aload_n 26 rfl rfl rfl ?_
      refine hq_getR 29 rfl rfl rfl rfl ?_
      refine sp_iload_n 30 rfl rfl rfl ?_
      refine sc_V 33 rfl rfl rfl rfl rfl (Nat.le_refl _) (Nat.le_refl _) rfl ?_
      refine mm_s_mono _ _ _ _ _ _ ?_ k
      rintro r_ h_ ⟨x1, I1, J1, rfl, rfl, k⟩
      refine hs_S (st2 := [.long x1]) rfl ?_
      exact st_lret rfl rfl (Nat.le_refl _) (Nat.le_refl _) k
    · have k := k.2 q_
      refine sp_ldc2 14 rfl rfl ?_
      refine sp_goto rfl ?_
      exact st_lret rfl rfl (Nat.le_refl _) (Nat.le_refl _) k
theorem sg_X10_stay {SL : Nat} {xs : Nat → Int32} {d : Nat} {p s q : Nat} {Q : Option Value → mm_H → Prop} {a0 : Int32} {I : Nat → Nat → Int32} {J : Nat → Nat → Int64}  (k : ((a0 < (Int32.ofInt 1) → Q (some (.long (Int64.ofInt (-1)))) (hp p s q I J)) ∧ (¬ (a0 < (Int32.ofInt 1)) → ((a0 < (Int32.ofInt 60) → (mm_s SL xs (d + 7) 1 [.ref 20, .ref p, .ref 15, .int a0] (hp p s q I J) (fun r_ h_ => ∃ x1 I1 J1, r_ = some (.long x1) ∧ h_ = hp p s q I1 J1 ∧ Q (some (.long x1)) (hp p s q I1 J1)))) ∧ (¬ (a0 < (Int32.ofInt 60)) → Q (some (.long (Int64.ofInt (-1)))) (hp p s q I J)))))) : mm_s SL xs (d + 8) 127 [.ref 2, .int a0] (hp p s q I J) Q := by
  refine e_X10_stay rfl ?_
  refine hs_L (L2 := [some (.ref 2), some (.int a0)]) rfl ?_
  refine sp_iload_n 1 rfl rfl rfl ?_
  refine sp_iconst 2 rfl rfl ?_
  refine sp_ic_lt 5 rfl rfl (fun q_ => ?_) (fun q_ => ?_)
  · have k := k.1 q_
    refine sp_ldc2 14 rfl rfl ?_
    refine sp_goto rfl ?_
    exact st_lret rfl rfl (Nat.le_refl _) (Nat.le_refl _) k
  · have k := k.2 q_
    refine sp_iload_n 6 rfl rfl rfl ?_
    refine sp_bipush 8 rfl rfl ?_
    refine sp_I (y := Int32.ofInt 60) rfl ?_
    refine sp_ic_lt 11 rfl rfl (fun q_ => ?_) (fun q_ => ?_)
    · have k := k.1 q_
      refine sp_aload_n 18 rfl rfl rfl ?_
      refine hq_getR 21 rfl rfl rfl rfl ?_
      refine sp_aload_n 22 rfl rfl rfl ?_
      refine hq_getR 25 rfl rfl rfl rfl ?_
      refine sp_aload_n 26 rfl rfl rfl ?_
      refine hq_getR 29 rfl rfl rfl rfl ?_
      refine sp_iload_n 30 rfl rfl rfl ?_
      refine sc_V 33 rfl rfl rfl rfl rfl (Nat.le_refl _) (Nat.le_refl _) rfl ?_
      refine mm_s_mono _ _ _ _ _ _ ?_ k
      rintro r_ h_ ⟨x1, I1, J1, rfl, rfl, k⟩
      refine hs_S (st2 := [.long x1]) rfl ?_
      exact st_lret rfl rfl (Nat.le_refl _) (Nat.le_refl _) k
    · have k := k.2 q_
      refine sp_ldc2 14 rfl rfl ?_
      refine sp_goto rfl ?_
      exact st_lret rfl rfl (Nat.le_refl _) (Nat.le_refl _) k
theorem sg_X10_begins {SL : Nat} {xs : Nat → Int32} {d : Nat} {p s q : Nat} {Q : Option Value → mm_H → Prop} {a0 : Int32} {I : Nat → Nat → Int32} {J : Nat → Nat → Int64}  (k : (mm_s SL xs (d + 7) 157 [.ref 2, .int a0] (hp p s q I J) (fun r_ h_ => ∃ x1 I1 J1, r_ = some (.int x1) ∧ h_ = hp p s q I1 J1 ∧ ((x1 = Int32.ofInt 0 → Q (some (.long (Int64.ofInt (-2)))) (hp p s q I1 J1)) ∧ (¬ (x1 = Int32.ofInt 0) → (mm_s SL xs (d + 7) 8 [.ref 20, .ref p, .int a0] (hp p s q I1 J1) (fun r_ h_ => ∃ x2 I2 J2, r_ = some (.long x2) ∧ h_ = hp p s q I2 J2 ∧ Q (some (.long x2)) (hp p s q I2 J2)))))))) : mm_s SL xs (d + 8) 129 [.ref 2, .int a0] (hp p s q I J) Q := by
  refine e_X10_begins rfl ?_
  refine hs_L (L2 := [some (.ref 2), some (.int a0)]) rfl ?_
  refine sp_aload_n 1 rfl rfl rfl ?_
  refine sp_iload_n 2 rfl rfl rfl ?_
  refine sc_V 5 rfl rfl rfl rfl rfl (Nat.le_refl _) (Nat.le_refl _) rfl ?_
  refine mm_s_mono _ _ _ _ _ _ ?_ k
  rintro r_ h_ ⟨x1, I1, J1, rfl, rfl, k⟩
  refine hs_S (st2 := [.int x1]) rfl ?_
  refine sp_if_eq 8 rfl rfl (fun q_ => ?_) (fun q_ => ?_)
  · have k := k.1 q_
    refine sp_ldc2 26 rfl rfl ?_
    exact st_lret rfl rfl (Nat.le_refl _) (Nat.le_refl _) k
  · have k := k.2 q_
    refine sp_aload_n 9 rfl rfl rfl ?_
    refine hq_getR 12 rfl rfl rfl rfl ?_
    refine sp_aload_n 13 rfl rfl rfl ?_
    refine hq_getR 16 rfl rfl rfl rfl ?_
    refine sp_iload_n 17 rfl rfl rfl ?_
    refine sc_V 20 rfl rfl rfl rfl rfl (Nat.le_refl _) (Nat.le_refl _) rfl ?_
    refine mm_s_mono _ _ _ _ _ _ ?_ k
    rintro r_ h_ ⟨x2, I2, J2, rfl, rfl, k⟩
    refine hs_S (st2 := [.long x2]) rfl ?_
    refine sp_goto rfl ?_
    exact st_lret rfl rfl (Nat.le_refl _) (Nat.le_refl _) k
theorem sg_X10_chooses {SL : Nat} {xs : Nat → Int32} {d : Nat} {p s q : Nat} {Q : Option Value → mm_H → Prop} {a0 : Int64} {I : Nat → Nat → Int32} {J : Nat → Nat → Int64} (h_p : isP p) (k : (((sx_X10_isSet (I p 0) a0) = Int32.ofInt 0 → Q (some (.int (Int32.ofInt (-1)))) (hp p s q I J)) ∧ (¬ ((sx_X10_isSet (I p 0) a0) = Int32.ofInt 0) → (mm_s SL xs (d + 7) 9 [.ref 20, .ref p, .long a0] (hp p s q I J) (fun r_ h_ => ∃ x1 I1 J1, r_ = some (.int x1) ∧ h_ = hp p s q I1 J1 ∧ Q (some (.int x1)) (hp p s q I1 J1)))))) : mm_s SL xs (d + 8) 130 [.ref 2, .long a0] (hp p s q I J) Q := by
  refine e_X10_chooses rfl ?_
  refine hs_L (L2 := [some (.ref 2), some (.long a0), none]) rfl ?_
  refine sp_aload_n 1 rfl rfl rfl ?_
  refine hq_getR 4 rfl rfl rfl rfl ?_
  refine hq_getI 7 rfl (kP0 h_p) rfl ?_
  refine sp_lload_n 8 rfl rfl rfl ?_
  refine sc_S 11 rfl rfl rfl rfl (Nat.le_refl _) (Nat.le_refl _) rfl ?_
  refine cx_X10_isSet ?_
  refine hs_S (st2 := [.int (sx_X10_isSet (I p 0) a0)]) rfl ?_
  refine sp_if_eq 14 rfl rfl (fun q_ => ?_) (fun q_ => ?_)
  · have k := k.1 q_
    refine sp_iconst 30 rfl rfl ?_
    exact st_iret rfl rfl (Nat.le_refl _) (Nat.le_refl _) k
  · have k := k.2 q_
    refine sp_aload_n 15 rfl rfl rfl ?_
    refine hq_getR 18 rfl rfl rfl rfl ?_
    refine sp_aload_n 19 rfl rfl rfl ?_
    refine hq_getR 22 rfl rfl rfl rfl ?_
    refine sp_lload_n 23 rfl rfl rfl ?_
    refine sc_V 26 rfl rfl rfl rfl rfl (Nat.le_refl _) (Nat.le_refl _) rfl ?_
    refine mm_s_mono _ _ _ _ _ _ ?_ k
    rintro r_ h_ ⟨x1, I1, J1, rfl, rfl, k⟩
    refine hs_S (st2 := [.int x1]) rfl ?_
    refine sp_goto rfl ?_
    exact st_iret rfl rfl (Nat.le_refl _) (Nat.le_refl _) k
theorem sg_X10_judge {SL : Nat} {xs : Nat → Int32} {d : Nat} {p s q : Nat} {Q : Option Value → mm_H → Prop}  {I : Nat → Nat → Int32} {J : Nat → Nat → Int64}  (k : (mm_s SL xs (d + 7) 11 [.ref 20, .ref p] (hp p s q I J) (fun r_ h_ => ∃ x1 I1 J1, r_ = some (.ref x1) ∧ h_ = hp p s q I1 J1 ∧ (mm_s SL xs (d + 7) 34 [.ref 29, .ref x1] (hp p s q I1 J1) (fun r_ h_ => ∃ x2 I2 J2, r_ = some (.int x2) ∧ h_ = hp p s q I2 J2 ∧ Q (some (.int x2)) (hp p s q I2 J2)))))) : mm_s SL xs (d + 8) 133 [.ref 2] (hp p s q I J) Q := by
  refine e_X10_judge rfl ?_
  refine hs_L (L2 := [some (.ref 2)]) rfl ?_
  refine sp_aload_n 1 rfl rfl rfl ?_
  refine hq_getR 4 rfl rfl rfl rfl ?_
  refine sp_aload_n 5 rfl rfl rfl ?_
  refine hq_getR 8 rfl rfl rfl rfl ?_
  refine sp_aload_n 9 rfl rfl rfl ?_
  refine hq_getR 12 rfl rfl rfl rfl ?_
  refine sc_V 15 rfl rfl rfl rfl rfl (Nat.le_refl _) (Nat.le_refl _) rfl ?_
  refine mm_s_mono _ _ _ _ _ _ ?_ k
  rintro r_ h_ ⟨x1, I1, J1, rfl, rfl, k⟩
  refine hs_S (st2 := [.ref x1, .ref 29]) rfl ?_
  refine sc_V 18 rfl rfl rfl rfl rfl (Nat.le_refl _) (Nat.le_refl _) rfl ?_
  refine mm_s_mono _ _ _ _ _ _ ?_ k
  rintro r_ h_ ⟨x2, I2, J2, rfl, rfl, k⟩
  refine hs_S (st2 := [.int x2]) rfl ?_
  exact st_iret rfl rfl (Nat.le_refl _) (Nat.le_refl _) k
theorem sg_X10_when {SL : Nat} {xs : Nat → Int32} {d : Nat} {p s q : Nat} {Q : Option Value → mm_H → Prop} {a0 : Int32} {I : Nat → Nat → Int32} {J : Nat → Nat → Int64}  (k : (mm_s SL xs (d + 8) 157 [.ref 2, .int a0] (hp p s q I J) (fun r_ h_ => ∃ x1 I1 J1, r_ = some (.int x1) ∧ h_ = hp p s q I1 J1 ∧ ((x1 = Int32.ofInt 0 → Q (some (.int (Int32.ofInt (-2)))) (hp p s q I1 J1)) ∧ (¬ (x1 = Int32.ofInt 0) → (mm_s SL xs (d + 8) 2 [.ref 20, .ref p, .ref 15, .int a0] (hp p s q I1 J1) (fun r_ h_ => ∃ x2 I2 J2, r_ = some (.int x2) ∧ h_ = hp p s q I2 J2 ∧ Q (some (.int x2)) (hp p s q I2 J2)))))))) : mm_s SL xs (d + 9) 124 [.ref 2, .int a0] (hp p s q I J) Q := by
  refine e_X10_when rfl ?_
  refine hs_L (L2 := [some (.ref 2), some (.int a0)]) rfl ?_
  refine sp_aload_n 1 rfl rfl rfl ?_
  refine sp_iload_n 2 rfl rfl rfl ?_
  refine sc_V 5 rfl rfl rfl rfl rfl (Nat.le_refl _) (Nat.le_refl _) rfl ?_
  refine mm_s_mono _ _ _ _ _ _ ?_ k
  rintro r_ h_ ⟨x1, I1, J1, rfl, rfl, k⟩
  refine hs_S (st2 := [.int x1]) rfl ?_
  refine sp_if_eq 8 rfl rfl (fun q_ => ?_) (fun q_ => ?_)
  · have k := k.1 q_
    refine sp_bipush 29 rfl rfl ?_
    refine sp_I (y := Int32.ofInt (-2)) rfl ?_
    exact st_iret rfl rfl (Nat.le_refl _) (Nat.le_refl _) k
  · have k := k.2 q_
    refine sp_aload_n 9 rfl rfl rfl ?_
    refine hq_getR 12 rfl rfl rfl rfl ?_
    refine sp_aload_n 13 rfl rfl rfl ?_
    refine hq_getR 16 rfl rfl rfl rfl ?_
    refine sp_aload_n 17 rfl rfl rfl ?_
    refine hq_getR 20 rfl rfl rfl rfl ?_
    refine sp_iload_n 21 rfl rfl rfl ?_
    refine sc_V 24 rfl rfl rfl rfl rfl (Nat.le_refl _) (Nat.le_refl _) rfl ?_
    refine mm_s_mono _ _ _ _ _ _ ?_ k
    rintro r_ h_ ⟨x2, I2, J2, rfl, rfl, k⟩
    refine hs_S (st2 := [.int x2]) rfl ?_
    refine sp_goto rfl ?_
    exact st_iret rfl rfl (Nat.le_refl _) (Nat.le_refl _) k
theorem sg_X10_bribe {SL : Nat} {xs : Nat → Int32} {d : Nat} {p s q : Nat} {Q : Option Value → mm_H → Prop} {a0 : Int32} {I : Nat → Nat → Int32} {J : Nat → Nat → Int64}  (k : (mm_s SL xs (d + 8) 157 [.ref 2, .int a0] (hp p s q I J) (fun r_ h_ => ∃ x1 I1 J1, r_ = some (.int x1) ∧ h_ = hp p s q I1 J1 ∧ ((x1 = Int32.ofInt 0 → Q (some (.int (Int32.ofInt (-2)))) (hp p s q I1 J1)) ∧ (¬ (x1 = Int32.ofInt 0) → (mm_s SL xs (d + 8) 4 [.ref 20, .ref p, .ref 15, .int a0] (hp p s q I1 J1) (fun r_ h_ => ∃ x2 I2 J2, r_ = some (.int x2) ∧ h_ = hp p s q I2 J2 ∧ Q (some (.int x2)) (hp p s q I2 J2)))))))) : mm_s SL xs (d + 9) 126 [.ref 2, .int a0] (hp p s q I J) Q := by
  refine e_X10_bribe rfl ?_
  refine hs_L (L2 := [some (.ref 2), some (.int a0)]) rfl ?_
  refine sp_aload_n 1 rfl rfl rfl ?_
  refine sp_iload_n 2 rfl rfl rfl ?_
  refine sc_V 5 rfl rfl rfl rfl rfl (Nat.le_refl _) (Nat.le_refl _) rfl ?_
  refine mm_s_mono _ _ _ _ _ _ ?_ k
  rintro r_ h_ ⟨x1, I1, J1, rfl, rfl, k⟩
  refine hs_S (st2 := [.int x1]) rfl ?_
  refine sp_if_eq 8 rfl rfl (fun q_ => ?_) (fun q_ => ?_)
  · have k := k.1 q_
    refine sp_bipush 29 rfl rfl ?_
    refine sp_I (y := Int32.ofInt (-2)) rfl ?_
    exact st_iret rfl rfl (Nat.le_refl _) (Nat.le_refl _) k
  · have k := k.2 q_
    refine sp_aload_n 9 rfl rfl rfl ?_
    refine hq_getR 12 rfl rfl rfl rfl ?_
    refine sp_aload_n 13 rfl rfl rfl ?_
    refine hq_getR 16 rfl rfl rfl rfl ?_
    refine sp_aload_n 17 rfl rfl rfl ?_
    refine hq_getR 20 rfl rfl rfl rfl ?_
    refine sp_iload_n 21 rfl rfl rfl ?_
    refine sc_V 24 rfl rfl rfl rfl rfl (Nat.le_refl _) (Nat.le_refl _) rfl ?_
    refine mm_s_mono _ _ _ _ _ _ ?_ k
    rintro r_ h_ ⟨x2, I2, J2, rfl, rfl, k⟩
    refine hs_S (st2 := [.int x2]) rfl ?_
    refine sp_goto rfl ?_
    exact st_iret rfl rfl (Nat.le_refl _) (Nat.le_refl _) k
