theorem sg_X5_set {SL : Nat} {xs : Nat → Int32} {d : Nat} {p s q : Nat} {Q : Option Value → mm_H → Prop} {o : Nat} {a0 : Int32} {a1 : Int32} {I : Nat → Nat → Int32} {J : Nat → Nat → Int64} (h_o : isP o) (k : ((a0 = Int32.ofInt 128 → Q none (hp p s q (mm_u I o 0 a1) J)) ∧ (a0 = Int32.ofInt 129 → Q none (hp p s q (mm_u I o 1 a1) J)) ∧ (a0 = Int32.ofInt 130 → Q none (hp p s q (mm_u I o 2 a1) J)) ∧ (a0 = Int32.ofInt 132 → Q none (hp p s q (mm_u I o 3 a1) J)) ∧ (a0 = Int32.ofInt 133 → Q none (hp p s q (mm_u I o 4 a1) J)) ∧ (a0 = Int32.ofInt 134 → Q none (hp p s q (mm_u I o 5 a1) J)) ∧ (¬ a0 = Int32.ofInt 128 → ¬ a0 = Int32.ofInt 129 → ¬ a0 = Int32.ofInt 130 → ¬ a0 = Int32.ofInt 132 → ¬ a0 = Int32.ofInt 133 → ¬ a0 = Int32.ofInt 134 → Q none (hp p s q I J)))) : mm_s SL xs (d + 1) 52 [.ref o, .int a0, .int a1] (hp p s q I J) Q := by
  refine e_X5_set rfl ?_
  refine hs_L (L2 := [some (.ref o), some (.int a0), some (.int a1)]) rfl ?_
  refine sp_iload_n 1 rfl rfl rfl ?_
  by_cases q1_0 : a0 = Int32.ofInt 128
  · have k := k.1 q1_0
    refine sp_table (t := 44) rfl (by rw [q1_0]; rfl) ?_
    refine sp_aload_n 45 rfl rfl rfl ?_
    refine sp_iload_n 46 rfl rfl rfl ?_
    refine hq_putI 49 rfl (kP0 h_o) rfl ?_
    refine sp_goto rfl ?_
    exact st_vret rfl rfl (Nat.le_refl _) (Nat.le_refl _) k
  · skip
    by_cases q1_1 : a0 = Int32.ofInt 129
    · have k := k.2.1 q1_1
      refine sp_table (t := 52) rfl (by rw [q1_1]; rfl) ?_
      refine sp_aload_n 53 rfl rfl rfl ?_
      refine sp_iload_n 54 rfl rfl rfl ?_
      refine hq_putI 57 rfl (kP0 h_o) rfl ?_
      refine sp_goto rfl ?_
      exact st_vret rfl rfl (Nat.le_refl _) (Nat.le_refl _) k
    · skip
      by_cases q1_2 : a0 = Int32.ofInt 130
      · have k := k.2.2.1 q1_2
        refine sp_table (t := 60) rfl (by rw [q1_2]; rfl) ?_
        refine sp_aload_n 61 rfl rfl rfl ?_
        refine sp_iload_n 62 rfl rfl rfl ?_
        refine hq_putI 65 rfl (kP0 h_o) rfl ?_
        refine sp_goto rfl ?_
        exact st_vret rfl rfl (Nat.le_refl _) (Nat.le_refl _) k
      · skip
        by_cases q1_3 : a0 = Int32.ofInt 132
        · have k := k.2.2.2.1 q1_3
          refine sp_table (t := 68) rfl (by rw [q1_3]; rfl) ?_
          refine sp_aload_n 69 rfl rfl rfl ?_
          refine sp_iload_n 70 rfl rfl rfl ?_
          refine hq_putI 73 rfl (kP0 h_o) rfl ?_
          refine sp_goto rfl ?_
          exact st_vret rfl rfl (Nat.le_refl _) (Nat.le_refl _) k
        · skip
          by_cases q1_4 : a0 = Int32.ofInt 133
          · have k := k.2.2.2.2.1 q1_4
            refine sp_table (t := 76) rfl (by rw [q1_4]; rfl) ?_
            refine sp_aload_n 77 rfl rfl rfl ?_
            refine sp_iload_n 78 rfl rfl rfl ?_
            refine hq_putI 81 rfl (kP0 h_o) rfl ?_
            refine sp_goto rfl ?_
            exact st_vret rfl rfl (Nat.le_refl _) (Nat.le_refl _) k
          · skip
            by_cases q1_5 : a0 = Int32.ofInt 134
            · have k := k.2.2.2.2.2.1 q1_5
              refine sp_table (t := 84) rfl (by rw [q1_5]; rfl) ?_
              refine sp_aload_n 85 rfl rfl rfl ?_
              refine sp_iload_n 86 rfl rfl rfl ?_
              refine hq_putI 89 rfl (kP0 h_o) rfl ?_
              refine sp_goto rfl ?_
              exact st_vret rfl rfl (Nat.le_refl _) (Nat.le_refl _) k
            · skip
              have k := k.2.2.2.2.2.2 q1_0 q1_1 q1_2 q1_3 q1_4 q1_5
              refine sp_table (t := 92) rfl ?_ ?_
              · unfold mm_tab
                rcases Classical.em (a0.toInt < 128 ∨ 134 < a0.toInt) with z | z
                · rw [if_pos z]; rfl
                · rw [if_neg z]
                  have : a0.toInt = 131 := by
                    have := tb_ne q1_0; have := tb_ne q1_1; have := tb_ne q1_2; have := tb_ne q1_3; have := tb_ne q1_4; have := tb_ne q1_5
                    omega
                  rw [this]; rfl
              · skip
                exact st_vret rfl rfl (Nat.le_refl _) (Nat.le_refl _) k
def w_X5_knows_2 (SL : Nat) (xs : Nat → Int32) (d : Nat) (p s q : Nat) (Q : Option Value → mm_H → Prop) (o : Nat) (v1 : Int64) (v3 : Int32) (I : Nat → Nat → Int32) (J : Nat → Nat → Int64) : Prop := mm_w SL xs (mm_s SL xs (d + 0)) mm_am kX5_knows 0 0 (some .boolean) Q 2 [some (.ref o), some (.long v1), none, some (.int v3)] [] (hp p s q I J) 0 0
theorem sg_X5_knows {SL : Nat} {xs : Nat → Int32} {d : Nat} {p s q : Nat} {Q : Option Value → mm_H → Prop} {o : Nat} {a0 : Int64} {I : Nat → Nat → Int32} {J : Nat → Nat → Int64}  (k : w_X5_knows_2 SL xs d p s q Q o a0 (Int32.ofInt 0) I J) : mm_s SL xs (d + 1) 53 [.ref o, .long a0] (hp p s q I J) Q := by
  refine e_X5_knows rfl ?_
  refine hs_L (L2 := [some (.ref o), some (.long a0), none, none]) rfl ?_
  refine sp_iconst 1 rfl rfl ?_
  refine hs_istore_n 2 (L2 := [some (.ref o), some (.long a0), none, some (.int (Int32.ofInt 0))]) rfl rfl rfl rfl ?_
  exact k
theorem sg_X5_knows_2 {SL : Nat} {xs : Nat → Int32} {d : Nat} {p s q : Nat} {Q : Option Value → mm_H → Prop} {o : Nat} {v1 : Int64} {v3 : Int32} {I : Nat → Nat → Int32} {J : Nat → Nat → Int64} (h_o : isP o) (k : (((I o 10) ≤ v3 → Q (some (.int (Int32.ofInt 0))) (hp p s q I J)) ∧ (¬ ((I o 10) ≤ v3) → (((Int32.ofInt 9) ≤ v3 → Q (some (.int (Int32.ofInt 0))) (hp p s q I J)) ∧ (¬ ((Int32.ofInt 9) ≤ v3) → (vp_in v3 9 ∧ (((J (o + 1) ((v3).toNatClampNeg)) = v1 → Q (some (.int (Int32.ofInt 1))) (hp p s q I J)) ∧ (¬ ((J (o + 1) ((v3).toNatClampNeg)) = v1) → w_X5_knows_2 SL xs d p s q Q o v1 (v3 + Int32.ofInt 1) I J)))))))) : w_X5_knows_2 SL xs d p s q Q o v1 v3 I J := by
  unfold w_X5_knows_2
  refine sp_iload_n 3 rfl rfl rfl ?_
  refine sp_aload_n 4 rfl rfl rfl ?_
  refine hq_getI 7 rfl (kP0 h_o) rfl ?_
  refine sp_ic_ge 10 rfl rfl (fun q_ => ?_) (fun q_ => ?_)
  · have k := k.1 q_
    refine sp_iconst 36 rfl rfl ?_
    exact st_zret rfl rfl (by decide) (Nat.le_refl _) (Nat.le_refl _) k
  · have k := k.2 q_
    refine sp_iload_n 11 rfl rfl rfl ?_
    refine sp_bipush 13 rfl rfl ?_
    refine sp_I (y := Int32.ofInt 9) rfl ?_
    refine sp_ic_ge 16 rfl rfl (fun q_ => ?_) (fun q_ => ?_)
    · have k := k.1 q_
      refine sp_iconst 36 rfl rfl ?_
      exact st_zret rfl rfl (by decide) (Nat.le_refl _) (Nat.le_refl _) k
    · have k := k.2 q_
      refine sp_aload_n 17 rfl rfl rfl ?_
      refine hq_getR 20 rfl (kP0 h_o) (rP1 h_o) rfl ?_
      refine sp_iload_n 21 rfl rfl rfl ?_
      have n1_ := k.1
      have k := k.2
      refine hq_lald 22 rfl (kP1 h_o) n1_ rfl ?_
      refine sp_lload_n 23 rfl rfl rfl ?_
      refine sp_lcmp 24 rfl rfl ?_
      refine sp_if_ne 27 rfl rfl (fun q_ => ?_) (fun q_ => ?_)
      · have k := k.2 (fun z_ => q_ ((lg_cmp_eq _ _).mpr z_))
        refine hs_iinc 32 (L2 := [some (.ref o), some (.long v1), none, some (.int (v3 + Int32.ofInt 1))]) rfl rfl rfl rfl rfl ?_
        refine sp_goto rfl ?_
        exact k
      · have k := k.1 ((lg_cmp_eq _ _).mp q_)
        refine sp_iconst 28 rfl rfl ?_
        exact st_zret rfl rfl (by decide) (Nat.le_refl _) (Nat.le_refl _) k
def w_X5_draws_2 (SL : Nat) (xs : Nat → Int32) (d : Nat) (p s q : Nat) (Q : Option Value → mm_H → Prop) (o : Nat) (v1 : Int32) (v2 : Int32) (I : Nat → Nat → Int32) (J : Nat → Nat → Int64) : Prop := mm_w SL xs (mm_s SL xs (d + 0)) mm_am kX5_draws 0 0 (some .boolean) Q 2 [some (.ref o), some (.int v1), some (.int v2)] [] (hp p s q I J) 0 0
theorem sg_X5_draws {SL : Nat} {xs : Nat → Int32} {d : Nat} {p s q : Nat} {Q : Option Value → mm_H → Prop} {o : Nat} {a0 : Int32} {I : Nat → Nat → Int32} {J : Nat → Nat → Int64}  (k : w_X5_draws_2 SL xs d p s q Q o a0 (Int32.ofInt 0) I J) : mm_s SL xs (d + 1) 54 [.ref o, .int a0] (hp p s q I J) Q := by
  refine e_X5_draws rfl ?_
  refine hs_L (L2 := [some (.ref o), some (.int a0), none]) rfl ?_
  refine sp_iconst 1 rfl rfl ?_
  refine hs_istore_n 2 (L2 := [some (.ref o), some (.int a0), some (.int (Int32.ofInt 0))]) rfl rfl rfl rfl ?_
  exact k
theorem sg_X5_draws_2 {SL : Nat} {xs : Nat → Int32} {d : Nat} {p s q : Nat} {Q : Option Value → mm_H → Prop} {o : Nat} {v1 : Int32} {v2 : Int32} {I : Nat → Nat → Int32} {J : Nat → Nat → Int64} (h_o : isP o) (k : (((I o 11) ≤ v2 → Q (some (.int (Int32.ofInt 0))) (hp p s q I J)) ∧ (¬ ((I o 11) ≤ v2) → (((Int32.ofInt 12) ≤ v2 → Q (some (.int (Int32.ofInt 0))) (hp p s q I J)) ∧ (¬ ((Int32.ofInt 12) ≤ v2) → (vp_in v2 12 ∧ (((I (o + 3) ((v2).toNatClampNeg)) = v1 → Q (some (.int (Int32.ofInt 1))) (hp p s q I J)) ∧ (¬ ((I (o + 3) ((v2).toNatClampNeg)) = v1) → w_X5_draws_2 SL xs d p s q Q o v1 (v2 + Int32.ofInt 1) I J)))))))) : w_X5_draws_2 SL xs d p s q Q o v1 v2 I J := by
  unfold w_X5_draws_2
  refine sp_iload_n 3 rfl rfl rfl ?_
  refine sp_aload_n 4 rfl rfl rfl ?_
  refine hq_getI 7 rfl (kP0 h_o) rfl ?_
  refine sp_ic_ge 10 rfl rfl (fun q_ => ?_) (fun q_ => ?_)
  · have k := k.1 q_
    refine sp_iconst 35 rfl rfl ?_
    exact st_zret rfl rfl (by decide) (Nat.le_refl _) (Nat.le_refl _) k
  · have k := k.2 q_
    refine sp_iload_n 11 rfl rfl rfl ?_
    refine sp_bipush 13 rfl rfl ?_
    refine sp_I (y := Int32.ofInt 12) rfl ?_
    refine sp_ic_ge 16 rfl rfl (fun q_ => ?_) (fun q_ => ?_)
    · have k := k.1 q_
      refine sp_iconst 35 rfl rfl ?_
      exact st_zret rfl rfl (by decide) (Nat.le_refl _) (Nat.le_refl _) k
    · have k := k.2 q_
      refine sp_aload_n 17 rfl rfl rfl ?_
      refine hq_getR 20 rfl (kP0 h_o) (rP3 h_o) rfl ?_
      refine sp_iload_n 21 rfl rfl rfl ?_
      have n1_ := k.1
      have k := k.2
      refine hq_iald 22 rfl (kP3 h_o) n1_ rfl ?_
      refine sp_iload_n 23 rfl rfl rfl ?_
      refine sp_ic_ne 26 rfl rfl (fun q_ => ?_) (fun q_ => ?_)
      · have k := k.2 q_
        refine hs_iinc 31 (L2 := [some (.ref o), some (.int v1), some (.int (v2 + Int32.ofInt 1))]) rfl rfl rfl rfl rfl ?_
        refine sp_goto rfl ?_
        exact k
      · have k := k.1 q_
        refine sp_iconst 27 rfl rfl ?_
        exact st_zret rfl rfl (by decide) (Nat.le_refl _) (Nat.le_refl _) k
theorem sg_X5_addPerson {SL : Nat} {xs : Nat → Int32} {d : Nat} {p s q : Nat} {Q : Option Value → mm_H → Prop} {o : Nat} {a0 : Int64} {a1 : Int32} {I : Nat → Nat → Int32} {J : Nat → Nat → Int64} (h_o : isP o) (k : (((Int32.ofInt 9) ≤ (I o 10) → Q none (hp p s q I J)) ∧ (¬ ((Int32.ofInt 9) ≤ (I o 10)) → (vp_in (I o 10) 9 ∧ Q none (hp p s q (mm_u (mm_u I (o + 2) (((I o 10)).toNatClampNeg) a1) o 10 ((I o 10) + (Int32.ofInt 1))) (mm_u J (o + 1) (((I o 10)).toNatClampNeg) a0)))))) : mm_s SL xs (d + 1) 55 [.ref o, .long a0, .int a1] (hp p s q I J) Q := by
  refine e_X5_addPerson rfl ?_
  refine hs_L (L2 := [some (.ref o), some (.long a0), none, some (.int a1)]) rfl ?_
  refine sp_aload_n 1 rfl rfl rfl ?_
  refine hq_getI 4 rfl (kP0 h_o) rfl ?_
  refine sp_bipush 6 rfl rfl ?_
  refine sp_I (y := Int32.ofInt 9) rfl ?_
  refine sp_ic_ge 9 rfl rfl (fun q_ => ?_) (fun q_ => ?_)
  · have k := k.1 q_
    exact st_vret rfl rfl (Nat.le_refl _) (Nat.le_refl _) k
  · have k := k.2 q_
    refine sp_aload_n 10 rfl rfl rfl ?_
    refine hq_getR 13 rfl (kP0 h_o) (rP1 h_o) rfl ?_
    refine sp_aload_n 14 rfl rfl rfl ?_
    refine hq_getI 17 rfl (kP0 h_o) rfl ?_
    refine sp_lload_n 18 rfl rfl rfl ?_
    have n1_ := k.1
    have k := k.2
    refine hq_last 19 rfl (kP1 h_o) n1_ rfl ?_
    refine sp_aload_n 20 rfl rfl rfl ?_
    refine hq_getR 23 rfl (kP0 h_o) (rP2 h_o) rfl ?_
    refine sp_aload_n 24 rfl rfl rfl ?_
    refine hq_getI 27 rfl (kP0 h_o) rfl ?_
    refine sp_iload_n 28 rfl rfl rfl ?_
    refine hq_iast 29 rfl (kP2 h_o) n1_ rfl ?_
    refine sp_aload_n 30 rfl rfl rfl ?_
    refine sp_dup 31 rfl rfl rfl ?_
    refine hq_getI 34 rfl (kP0 h_o) rfl ?_
    refine sp_I (y := (I o 10)) (by simp [mm_u]) ?_
    refine sp_iconst 35 rfl rfl ?_
    refine sp_iadd 36 rfl rfl ?_
    refine hq_putI 39 rfl (kP0 h_o) rfl ?_
    exact st_vret rfl rfl (Nat.le_refl _) (Nat.le_refl _) k
theorem sg_X5_addDrawn {SL : Nat} {xs : Nat → Int32} {d : Nat} {p s q : Nat} {Q : Option Value → mm_H → Prop} {o : Nat} {a0 : Int32} {a1 : Int32} {I : Nat → Nat → Int32} {J : Nat → Nat → Int64} (h_o : isP o) (k : (((Int32.ofInt 12) ≤ (I o 11) → Q none (hp p s q I J)) ∧ (¬ ((Int32.ofInt 12) ≤ (I o 11)) → (vp_in (I o 11) 12 ∧ Q none (hp p s q (mm_u (mm_u (mm_u I (o + 3) (((I o 11)).toNatClampNeg) a0) (o + 4) (((I o 11)).toNatClampNeg) a1) o 11 ((I o 11) + (Int32.ofInt 1))) J))))) : mm_s SL xs (d + 1) 56 [.ref o, .int a0, .int a1] (hp p s q I J) Q := by
  refine e_X5_addDrawn rfl ?_
  refine hs_L (L2 := [some (.ref o), some (.int a0), some (.int a1)]) rfl ?_
  refine sp_aload_n 1 rfl rfl rfl ?_
  refine hq_getI 4 rfl (kP0 h_o) rfl ?_
  refine sp_bipush 6 rfl rfl ?_
  refine sp_I (y := Int32.ofInt 12) rfl ?_
  refine sp_ic_ge 9 rfl rfl (fun q_ => ?_) (fun q_ => ?_)
  · have k := k.1 q_
    exact st_vret rfl rfl (Nat.le_refl _) (Nat.le_refl _) k
  · have k := k.2 q_
    refine sp_aload_n 10 rfl rfl rfl ?_
    refine hq_getR 13 rfl (kP0 h_o) (rP3 h_o) rfl ?_
    refine sp_aload_n 14 rfl rfl rfl ?_
    refine hq_getI 17 rfl (kP0 h_o) rfl ?_
    refine sp_iload_n 18 rfl rfl rfl ?_
    have n1_ := k.1
    have k := k.2
    refine hq_iast 19 rfl (kP3 h_o) n1_ rfl ?_
    refine sp_aload_n 20 rfl rfl rfl ?_
    refine hq_getR 23 rfl (kP0 h_o) (rP4 h_o) rfl ?_
    refine sp_aload_n 24 rfl rfl rfl ?_
    refine hq_getI 27 rfl (kP0 h_o) rfl ?_
    refine sp_I (y := (I o 11)) (by simp [mm_u]) ?_
    refine sp_iload_n 28 rfl rfl rfl ?_
    refine hq_iast 29 rfl (kP4 h_o) n1_ rfl ?_
    refine sp_aload_n 30 rfl rfl rfl ?_
    refine sp_dup 31 rfl rfl rfl ?_
    refine hq_getI 34 rfl (kP0 h_o) rfl ?_
    refine sp_I (y := (I o 11)) (by simp [mm_u]) ?_
    refine sp_iconst 35 rfl rfl ?_
    refine sp_iadd 36 rfl rfl ?_
    refine hq_putI 39 rfl (kP0 h_o) rfl ?_
    exact st_vret rfl rfl (Nat.le_refl _) (Nat.le_refl _) k
theorem sg_X5_forgetCount {SL : Nat} {xs : Nat → Int32} {d : Nat} {p s q : Nat} {Q : Option Value → mm_H → Prop} {o : Nat} {I : Nat → Nat → Int32} {J : Nat → Nat → Int64} (h_o : isP o) (k : Q none (hp p s q (mm_u I o 17 (Int32.ofInt 0)) J)) : mm_s SL xs (d + 1) 57 [.ref o] (hp p s q I J) Q := by
  refine e_X5_forgetCount rfl ?_
  refine hs_L (L2 := [some (.ref o)]) rfl ?_
  refine sp_aload_n 1 rfl rfl rfl ?_
  refine sp_iconst 2 rfl rfl ?_
  refine hq_putI 5 rfl (kP0 h_o) rfl ?_
  exact st_vret rfl rfl (Nat.le_refl _) (Nat.le_refl _) k
theorem sg_X5_addCode {SL : Nat} {xs : Nat → Int32} {d : Nat} {p s q : Nat} {Q : Option Value → mm_H → Prop} {o : Nat} {a0 : Int32} {I : Nat → Nat → Int32} {J : Nat → Nat → Int64} (h_o : isP o) (k : (((Int32.ofInt 360) ≤ (I o 17) → Q none (hp p s q I J)) ∧ (¬ ((Int32.ofInt 360) ≤ (I o 17)) → (vp_in (I o 17) 360 ∧ Q none (hp p s q (mm_u (mm_u I (o + 5) (((I o 17)).toNatClampNeg) a0) o 17 ((I o 17) + (Int32.ofInt 1))) J))))) : mm_s SL xs (d + 1) 58 [.ref o, .int a0] (hp p s q I J) Q := by
  refine e_X5_addCode rfl ?_
  refine hs_L (L2 := [some (.ref o), some (.int a0)]) rfl ?_
  refine sp_aload_n 1 rfl rfl rfl ?_
  refine hq_getI 4 rfl (kP0 h_o) rfl ?_
  refine sp_aload_n 5 rfl rfl rfl ?_
  refine hq_getR 8 rfl (kP0 h_o) (rP5 h_o) rfl ?_
  refine hq_alen 9 rfl (kP5 h_o) rfl rfl ?_
  refine sp_I (y := Int32.ofInt 360) rfl ?_
  refine sp_ic_ge 12 rfl rfl (fun q_ => ?_) (fun q_ => ?_)
  · have k := k.1 q_
    exact st_vret rfl rfl (Nat.le_refl _) (Nat.le_refl _) k
  · have k := k.2 q_
    refine sp_aload_n 13 rfl rfl rfl ?_
    refine hq_getR 16 rfl (kP0 h_o) (rP5 h_o) rfl ?_
    refine sp_aload_n 17 rfl rfl rfl ?_
    refine hq_getI 20 rfl (kP0 h_o) rfl ?_
    refine sp_iload_n 21 rfl rfl rfl ?_
    have n1_ := k.1
    have k := k.2
    refine hq_iast 22 rfl (kP5 h_o) n1_ rfl ?_
    refine sp_aload_n 23 rfl rfl rfl ?_
    refine sp_dup 24 rfl rfl rfl ?_
    refine hq_getI 27 rfl (kP0 h_o) rfl ?_
    refine sp_I (y := (I o 17)) (by simp [mm_u]) ?_
    refine sp_iconst 28 rfl rfl ?_
    refine sp_iadd 29 rfl rfl ?_
    refine hq_putI 32 rfl (kP0 h_o) rfl ?_
    exact st_vret rfl rfl (Nat.le_refl _) (Nat.le_refl _) k
theorem sg_X5_joined {SL : Nat} {xs : Nat → Int32} {d : Nat} {p s q : Nat} {Q : Option Value → mm_H → Prop} {a0 : Int32} {a1 : Int32} {a2 : Int32} {I : Nat → Nat → Int32} {J : Nat → Nat → Int64}  (k : ((a0 = Int32.ofInt 42 → Q (some (.int (a1 * a2))) (hp p s q I J)) ∧ (a0 = Int32.ofInt 43 → Q (some (.int (a1 + a2))) (hp p s q I J)) ∧ (a0 = Int32.ofInt 45 → Q (some (.int (a1 - a2))) (hp p s q I J)) ∧ (a0 = Int32.ofInt 47 → ((a2 = Int32.ofInt 0 → Q (some (.int (Int32.ofInt 0))) (hp p s q I J)) ∧ (¬ (a2 = Int32.ofInt 0) → (¬ a2 = 0 ∧ Q (some (.int (a1 / a2))) (hp p s q I J))))) ∧ (a0 = Int32.ofInt 60 → ((a2 ≤ a1 → Q (some (.int (Int32.ofInt 0))) (hp p s q I J)) ∧ (¬ (a2 ≤ a1) → Q (some (.int (Int32.ofInt 1))) (hp p s q I J)))) ∧ (a0 = Int32.ofInt 61 → ((a1 = a2 → Q (some (.int (Int32.ofInt 1))) (hp p s q I J)) ∧ (¬ (a1 = a2) → Q (some (.int (Int32.ofInt 0))) (hp p s q I J)))) ∧ (a0 = Int32.ofInt 62 → ((a1 ≤ a2 → Q (some (.int (Int32.ofInt 0))) (hp p s q I J)) ∧ (¬ (a1 ≤ a2) → Q (some (.int (Int32.ofInt 1))) (hp p s q I J)))) ∧ (a0 = Int32.ofInt 142 → ((a1 = Int32.ofInt 0 → ((a2 = Int32.ofInt 0 → Q (some (.int (Int32.ofInt 0))) (hp p s q I J)) ∧ (¬ (a2 = Int32.ofInt 0) → Q (some (.int (Int32.ofInt 1))) (hp p s q I J)))) ∧ (¬ (a1 = Int32.ofInt 0) → Q (some (.int (Int32.ofInt 1))) (hp p s q I J)))) ∧ (a0 = Int32.ofInt 143 → ((a1 = Int32.ofInt 0 → Q (some (.int (Int32.ofInt 0))) (hp p s q I J)) ∧ (¬ (a1 = Int32.ofInt 0) → ((a2 = Int32.ofInt 0 → Q (some (.int (Int32.ofInt 0))) (hp p s q I J)) ∧ (¬ (a2 = Int32.ofInt 0) → Q (some (.int (Int32.ofInt 1))) (hp p s q I J)))))) ∧ (¬ a0 = Int32.ofInt 42 → ¬ a0 = Int32.ofInt 43 → ¬ a0 = Int32.ofInt 45 → ¬ a0 = Int32.ofInt 47 → ¬ a0 = Int32.ofInt 60 → ¬ a0 = Int32.ofInt 61 → ¬ a0 = Int32.ofInt 62 → ¬ a0 = Int32.ofInt 142 → ¬ a0 = Int32.ofInt 143 → Q (some (.int (Int32.ofInt 0))) (hp p s q I J)))) : mm_s SL xs (d + 1) 63 [.int a0, .int a1, .int a2] (hp p s q I J) Q := by
  refine e_X5_joined rfl ?_
  refine hs_L (L2 := [some (.int a0), some (.int a1), some (.int a2)]) rfl ?_
  refine sp_iload_n 1 rfl rfl rfl ?_
  by_cases q1_0 : a0 = Int32.ofInt 42
  · have k := k.1 q1_0
    refine sp_lookup (t := 153) rfl (by rw [q1_0]; rfl) ?_
    refine sp_iload_n 154 rfl rfl rfl ?_
    refine sp_iload_n 155 rfl rfl rfl ?_
    refine sp_imul 156 rfl rfl ?_
    exact st_iret rfl rfl (Nat.le_refl _) (Nat.le_refl _) k
  · skip
    by_cases q1_1 : a0 = Int32.ofInt 43
    · have k := k.2.1 q1_1
      refine sp_lookup (t := 145) rfl (by rw [q1_1]; rfl) ?_
      refine sp_iload_n 146 rfl rfl rfl ?_
      refine sp_iload_n 147 rfl rfl rfl ?_
      refine sp_iadd 148 rfl rfl ?_
      exact st_iret rfl rfl (Nat.le_refl _) (Nat.le_refl _) k
    · skip
      by_cases q1_2 : a0 = Int32.ofInt 45
      · have k := k.2.2.1 q1_2
        refine sp_lookup (t := 149) rfl (by rw [q1_2]; rfl) ?_
        refine sp_iload_n 150 rfl rfl rfl ?_
        refine sp_iload_n 151 rfl rfl rfl ?_
        refine sp_isub 152 rfl rfl ?_
        exact st_iret rfl rfl (Nat.le_refl _) (Nat.le_refl _) k
      · skip
        by_cases q1_3 : a0 = Int32.ofInt 47
        · have k := k.2.2.2.1 q1_3
          refine sp_lookup (t := 157) rfl (by rw [q1_3]; rfl) ?_
          refine sp_iload_n 158 rfl rfl rfl ?_
          refine sp_if_ne 161 rfl rfl (fun q_ => ?_) (fun q_ => ?_)
          · have k := k.2 q_
            refine sp_iload_n 166 rfl rfl rfl ?_
            refine sp_iload_n 167 rfl rfl rfl ?_
            have n1_ := k.1
            have k := k.2
            refine sp_idiv 168 rfl n1_ rfl ?_
            exact st_iret rfl rfl (Nat.le_refl _) (Nat.le_refl _) k
          · have k := k.1 q_
            refine sp_iconst 162 rfl rfl ?_
            refine sp_goto rfl ?_
            exact st_iret rfl rfl (Nat.le_refl _) (Nat.le_refl _) k
        · skip
          by_cases q1_4 : a0 = Int32.ofInt 60
          · have k := k.2.2.2.2.1 q1_4
            refine sp_lookup (t := 112) rfl (by rw [q1_4]; rfl) ?_
            refine sp_iload_n 113 rfl rfl rfl ?_
            refine sp_iload_n 114 rfl rfl rfl ?_
            refine sp_ic_ge 117 rfl rfl (fun q_ => ?_) (fun q_ => ?_)
            · have k := k.1 q_
              refine sp_iconst 122 rfl rfl ?_
              exact st_iret rfl rfl (Nat.le_refl _) (Nat.le_refl _) k
            · have k := k.2 q_
              refine sp_iconst 118 rfl rfl ?_
              refine sp_goto rfl ?_
              exact st_iret rfl rfl (Nat.le_refl _) (Nat.le_refl _) k
          · skip
            by_cases q1_5 : a0 = Int32.ofInt 61
            · have k := k.2.2.2.2.2.1 q1_5
              refine sp_lookup (t := 134) rfl (by rw [q1_5]; rfl) ?_
              refine sp_iload_n 135 rfl rfl rfl ?_
              refine sp_iload_n 136 rfl rfl rfl ?_
              refine sp_ic_ne 139 rfl rfl (fun q_ => ?_) (fun q_ => ?_)
              · have k := k.2 q_
                refine sp_iconst 144 rfl rfl ?_
                exact st_iret rfl rfl (Nat.le_refl _) (Nat.le_refl _) k
              · have k := k.1 q_
                refine sp_iconst 140 rfl rfl ?_
                refine sp_goto rfl ?_
                exact st_iret rfl rfl (Nat.le_refl _) (Nat.le_refl _) k
            · skip
              by_cases q1_6 : a0 = Int32.ofInt 62
              · have k := k.2.2.2.2.2.2.1 q1_6
                refine sp_lookup (t := 123) rfl (by rw [q1_6]; rfl) ?_
                refine sp_iload_n 124 rfl rfl rfl ?_
                refine sp_iload_n 125 rfl rfl rfl ?_
                refine sp_ic_le 128 rfl rfl (fun q_ => ?_) (fun q_ => ?_)
                · have k := k.1 q_
                  refine sp_iconst 133 rfl rfl ?_
                  exact st_iret rfl rfl (Nat.le_refl _) (Nat.le_refl _) k
                · have k := k.2 q_
                  refine sp_iconst 129 rfl rfl ?_
                  refine sp_goto rfl ?_
                  exact st_iret rfl rfl (Nat.le_refl _) (Nat.le_refl _) k
              · skip
                by_cases q1_7 : a0 = Int32.ofInt 142
                · have k := k.2.2.2.2.2.2.2.1 q1_7
                  refine sp_lookup (t := 84) rfl (by rw [q1_7]; rfl) ?_
                  refine sp_iload_n 85 rfl rfl rfl ?_
                  refine sp_if_ne 88 rfl rfl (fun q_ => ?_) (fun q_ => ?_)
                  · have k := k.2 q_
                    refine sp_iconst 93 rfl rfl ?_
                    refine sp_goto rfl ?_
                    exact st_iret rfl rfl (Nat.le_refl _) (Nat.le_refl _) k
                  · have k := k.1 q_
                    refine sp_iload_n 89 rfl rfl rfl ?_
                    refine sp_if_eq 92 rfl rfl (fun q_ => ?_) (fun q_ => ?_)
                    · have k := k.1 q_
                      refine sp_iconst 97 rfl rfl ?_
                      exact st_iret rfl rfl (Nat.le_refl _) (Nat.le_refl _) k
                    · have k := k.2 q_
                      refine sp_iconst 93 rfl rfl ?_
                      refine sp_goto rfl ?_
                      exact st_iret rfl rfl (Nat.le_refl _) (Nat.le_refl _) k
                · skip
                  by_cases q1_8 : a0 = Int32.ofInt 143
                  · have k := k.2.2.2.2.2.2.2.2.1 q1_8
                    refine sp_lookup (t := 98) rfl (by rw [q1_8]; rfl) ?_
                    refine sp_iload_n 99 rfl rfl rfl ?_
                    refine sp_if_eq 102 rfl rfl (fun q_ => ?_) (fun q_ => ?_)
                    · have k := k.1 q_
                      refine sp_iconst 111 rfl rfl ?_
                      exact st_iret rfl rfl (Nat.le_refl _) (Nat.le_refl _) k
                    · have k := k.2 q_
                      refine sp_iload_n 103 rfl rfl rfl ?_
                      refine sp_if_eq 106 rfl rfl (fun q_ => ?_) (fun q_ => ?_)
                      · have k := k.1 q_
                        refine sp_iconst 111 rfl rfl ?_
                        exact st_iret rfl rfl (Nat.le_refl _) (Nat.le_refl _) k
                      · have k := k.2 q_
                        refine sp_iconst 107 rfl rfl ?_
                        refine sp_goto rfl ?_
                        exact st_iret rfl rfl (Nat.le_refl _) (Nat.le_refl _) k
                  · skip
                    have k := k.2.2.2.2.2.2.2.2.2 q1_0 q1_1 q1_2 q1_3 q1_4 q1_5 q1_6 q1_7 q1_8
                    refine sp_lookup (t := 169) rfl (by simp only [Op.lookupswitch.offset, Array.toList, List.find?]; rw [if_neg (fun e_ => tb_ne q1_0 e_.symm), if_neg (fun e_ => tb_ne q1_1 e_.symm), if_neg (fun e_ => tb_ne q1_2 e_.symm), if_neg (fun e_ => tb_ne q1_3 e_.symm), if_neg (fun e_ => tb_ne q1_4 e_.symm), if_neg (fun e_ => tb_ne q1_5 e_.symm), if_neg (fun e_ => tb_ne q1_6 e_.symm), if_neg (fun e_ => tb_ne q1_7 e_.symm), if_neg (fun e_ => tb_ne q1_8 e_.symm)]; rfl) ?_
                    refine sp_iconst 170 rfl rfl ?_
                    exact st_iret rfl rfl (Nat.le_refl _) (Nat.le_refl _) k
theorem sg_X7_fail {SL : Nat} {xs : Nat → Int32} {d : Nat} {p s q : Nat} {Q : Option Value → mm_H → Prop} {a0 : Int32} {I : Nat → Nat → Int32} {J : Nat → Nat → Int64}  (k : (((I 4 2) = (Int32.ofInt 1) → Q (some (.int (Int32.ofInt 0))) (hp p s q (mm_u (mm_u I 3 1 (Int32.ofInt 1)) 3 2 (I 4 3)) J)) ∧ (¬ ((I 4 2) = (Int32.ofInt 1)) → Q (some (.int (Int32.ofInt 0))) (hp p s q (mm_u (mm_u I 3 1 a0) 3 2 (I 4 3)) J)))) : mm_s SL xs (d + 1) 74 [.ref 3, .int a0] (hp p s q I J) Q := by
  refine e_X7_fail rfl ?_
  refine hs_L (L2 := [some (.ref 3), some (.int a0)]) rfl ?_
  refine sp_aload_n 1 rfl rfl rfl ?_
  refine sp_aload_n 2 rfl rfl rfl ?_
  refine hq_getR 5 rfl rfl rfl rfl ?_
  refine hq_getI 8 rfl rfl rfl ?_
  refine sp_iconst 9 rfl rfl ?_
  refine sp_ic_ne 12 rfl rfl (fun q_ => ?_) (fun q_ => ?_)
  · have k := k.2 q_
    refine sp_iload_n 17 rfl rfl rfl ?_
    refine hq_putI 20 rfl rfl rfl ?_
    refine sp_aload_n 21 rfl rfl rfl ?_
    refine sp_aload_n 22 rfl rfl rfl ?_
    refine hq_getR 25 rfl rfl rfl rfl ?_
    refine hq_getI 28 rfl rfl rfl ?_
    refine sp_I (y := (I 4 3)) (by simp [mm_u]) ?_
    refine hq_putI 31 rfl rfl rfl ?_
    refine sp_iconst 32 rfl rfl ?_
    exact st_zret rfl rfl (by decide) (Nat.le_refl _) (Nat.le_refl _) k
  · have k := k.1 q_
    refine sp_iconst 13 rfl rfl ?_
    refine sp_goto rfl ?_
    refine hq_putI 20 rfl rfl rfl ?_
    refine sp_aload_n 21 rfl rfl rfl ?_
    refine sp_aload_n 22 rfl rfl rfl ?_
    refine hq_getR 25 rfl rfl rfl rfl ?_
    refine hq_getI 28 rfl rfl rfl ?_
    refine sp_I (y := (I 4 3)) (by simp [mm_u]) ?_
    refine hq_putI 31 rfl rfl rfl ?_
    refine sp_iconst 32 rfl rfl ?_
    exact st_zret rfl rfl (by decide) (Nat.le_refl _) (Nat.le_refl _) k
theorem sg_X7_isFull {SL : Nat} {xs : Nat → Int32} {d : Nat} {p s q : Nat} {Q : Option Value → mm_H → Prop} {a0 : Int32} {I : Nat → Nat → Int32} {J : Nat → Nat → Int64} (h_q : isP q) (k : ((a0 = Int32.ofInt 135 → (((I 3 5) < (Int32.ofInt 8) → Q (some (.int (Int32.ofInt 0))) (hp p s q I J)) ∧ (¬ ((I 3 5) < (Int32.ofInt 8)) → Q (some (.int (Int32.ofInt 1))) (hp p s q I J)))) ∧ (a0 = Int32.ofInt 137 → (((I q 10) < (Int32.ofInt 9) → Q (some (.int (Int32.ofInt 0))) (hp p s q I J)) ∧ (¬ ((I q 10) < (Int32.ofInt 9)) → Q (some (.int (Int32.ofInt 1))) (hp p s q I J)))) ∧ (a0 = Int32.ofInt 138 → (((I q 11) < (Int32.ofInt 12) → Q (some (.int (Int32.ofInt 0))) (hp p s q I J)) ∧ (¬ ((I q 11) < (Int32.ofInt 12)) → Q (some (.int (Int32.ofInt 1))) (hp p s q I J)))) ∧ (¬ a0 = Int32.ofInt 135 → ¬ a0 = Int32.ofInt 137 → ¬ a0 = Int32.ofInt 138 → ((a0 < (Int32.ofInt 128) → Q (some (.int (Int32.ofInt 1))) (hp p s q I J)) ∧ (¬ (a0 < (Int32.ofInt 128)) → (((Int32.ofInt 138) < a0 → Q (some (.int (Int32.ofInt 1))) (hp p s q I J)) ∧ (¬ ((Int32.ofInt 138) < a0) → (vp_in (a0 - (Int32.ofInt 128)) 11 ∧ (((I 14 (((a0 - (Int32.ofInt 128))).toNatClampNeg)) = Int32.ofInt 0 → Q (some (.int (Int32.ofInt 0))) (hp p s q I J)) ∧ (¬ ((I 14 (((a0 - (Int32.ofInt 128))).toNatClampNeg)) = Int32.ofInt 0) → Q (some (.int (Int32.ofInt 1))) (hp p s q I J))))))))))) : mm_s SL xs (d + 1) 77 [.ref 3, .int a0] (hp p s q I J) Q := by
  refine e_X7_isFull rfl ?_
  refine hs_L (L2 := [some (.ref 3), some (.int a0)]) rfl ?_
  refine sp_iload_n 1 rfl rfl rfl ?_
  by_cases q1_0 : a0 = Int32.ofInt 135
  · have k := k.1 q1_0
    refine sp_table (t := 32) rfl (by rw [q1_0]; rfl) ?_
    refine sp_aload_n 33 rfl rfl rfl ?_
    refine hq_getI 36 rfl rfl rfl ?_
    refine sp_bipush 38 rfl rfl ?_
    refine sp_I (y := Int32.ofInt 8) rfl ?_
    refine sp_ic_lt 41 rfl rfl (fun q_ => ?_) (fun q_ => ?_)
    · have k := k.1 q_
      refine sp_iconst 46 rfl rfl ?_
      exact st_zret rfl rfl (by decide) (Nat.le_refl _) (Nat.le_refl _) k
    · have k := k.2 q_
      refine sp_iconst 42 rfl rfl ?_
      refine sp_goto rfl ?_
      exact st_zret rfl rfl (by decide) (Nat.le_refl _) (Nat.le_refl _) k
  · skip
    by_cases q1_1 : a0 = Int32.ofInt 137
    · have k := k.2.1 q1_1
      refine sp_table (t := 47) rfl (by rw [q1_1]; rfl) ?_
      refine sp_aload_n 48 rfl rfl rfl ?_
      refine hq_getR 51 rfl rfl rfl rfl ?_
      refine hq_getI 54 rfl (kP0 h_q) rfl ?_
      refine sp_bipush 56 rfl rfl ?_
      refine sp_I (y := Int32.ofInt 9) rfl ?_
      refine sp_ic_lt 59 rfl rfl (fun q_ => ?_) (fun q_ => ?_)
      · have k := k.1 q_
        refine sp_iconst 64 rfl rfl ?_
        exact st_zret rfl rfl (by decide) (Nat.le_refl _) (Nat.le_refl _) k
      · have k := k.2 q_
        refine sp_iconst 60 rfl rfl ?_
        refine sp_goto rfl ?_
        exact st_zret rfl rfl (by decide) (Nat.le_refl _) (Nat.le_refl _) k
    · skip
      by_cases q1_2 : a0 = Int32.ofInt 138
      · have k := k.2.2.1 q1_2
        refine sp_table (t := 65) rfl (by rw [q1_2]; rfl) ?_
        refine sp_aload_n 66 rfl rfl rfl ?_
        refine hq_getR 69 rfl rfl rfl rfl ?_
        refine hq_getI 72 rfl (kP0 h_q) rfl ?_
        refine sp_bipush 74 rfl rfl ?_
        refine sp_I (y := Int32.ofInt 12) rfl ?_
        refine sp_ic_lt 77 rfl rfl (fun q_ => ?_) (fun q_ => ?_)
        · have k := k.1 q_
          refine sp_iconst 82 rfl rfl ?_
          exact st_zret rfl rfl (by decide) (Nat.le_refl _) (Nat.le_refl _) k
        · have k := k.2 q_
          refine sp_iconst 78 rfl rfl ?_
          refine sp_goto rfl ?_
          exact st_zret rfl rfl (by decide) (Nat.le_refl _) (Nat.le_refl _) k
      · skip
        have k := k.2.2.2 q1_0 q1_1 q1_2
        refine sp_table (t := 83) rfl ?_ ?_
        · unfold mm_tab
          rcases Classical.em (a0.toInt < 135 ∨ 138 < a0.toInt) with z | z
          · rw [if_pos z]; rfl
          · rw [if_neg z]
            have : a0.toInt = 136 := by
              have := tb_ne q1_0; have := tb_ne q1_1; have := tb_ne q1_2
              omega
            rw [this]; rfl
        · skip
          refine sp_iload_n 84 rfl rfl rfl ?_
          refine sp_sipush 87 rfl rfl ?_
          refine sp_I (y := Int32.ofInt 128) rfl ?_
          refine sp_ic_lt 90 rfl rfl (fun q_ => ?_) (fun q_ => ?_)
          · have k := k.1 q_
            refine sp_iconst 111 rfl rfl ?_
            refine sp_goto rfl ?_
            exact st_zret rfl rfl (by decide) (Nat.le_refl _) (Nat.le_refl _) k
          · have k := k.2 q_
            refine sp_iload_n 91 rfl rfl rfl ?_
            refine sp_sipush 94 rfl rfl ?_
            refine sp_I (y := Int32.ofInt 138) rfl ?_
            refine sp_ic_gt 97 rfl rfl (fun q_ => ?_) (fun q_ => ?_)
            · have k := k.1 q_
              refine sp_iconst 111 rfl rfl ?_
              refine sp_goto rfl ?_
              exact st_zret rfl rfl (by decide) (Nat.le_refl _) (Nat.le_refl _) k
            · have k := k.2 q_
              refine sp_aload_n 98 rfl rfl rfl ?_
              refine hq_getR 101 rfl rfl rfl rfl ?_
              refine sp_iload_n 102 rfl rfl rfl ?_
              refine sp_sipush 105 rfl rfl ?_
              refine sp_I (y := Int32.ofInt 128) rfl ?_
              refine sp_isub 106 rfl rfl ?_
              have n1_ := k.1
              have k := k.2
              refine hq_zald 107 rfl rfl n1_ rfl ?_
              refine sp_if_eq 110 rfl rfl (fun q_ => ?_) (fun q_ => ?_)
              · have k := k.1 q_
                refine sp_iconst 115 rfl rfl ?_
                exact st_zret rfl rfl (by decide) (Nat.le_refl _) (Nat.le_refl _) k
              · have k := k.2 q_
                refine sp_iconst 111 rfl rfl ?_
                refine sp_goto rfl ?_
                exact st_zret rfl rfl (by decide) (Nat.le_refl _) (Nat.le_refl _) k
theorem sg_X8_takeBack {SL : Nat} {xs : Nat → Int32} {d : Nat} {p s q : Nat} {Q : Option Value → mm_H → Prop} {a0 : Int32} {a1 : Int32} {I : Nat → Nat → Int32} {J : Nat → Nat → Int64}  (k : ((a0 < Int32.ofInt 0 → Q (some (.int (Int32.ofInt 0))) (hp p s q I J)) ∧ (¬ (a0 < Int32.ofInt 0) → (((I 33 0) ≤ a0 → Q (some (.int (Int32.ofInt 0))) (hp p s q I J)) ∧ (¬ ((I 33 0) ≤ a0) → (((Int32.ofInt 40) ≤ a0 → Q (some (.int (Int32.ofInt 0))) (hp p s q I J)) ∧ (¬ ((Int32.ofInt 40) ≤ a0) → (vp_in a0 40 ∧ (((I 35 ((a0).toNatClampNeg)) = (Int32.ofInt (-1)) → Q (some (.int (Int32.ofInt 1))) (hp p s q (mm_u I 35 ((a0).toNatClampNeg) a1) J)) ∧ (¬ ((I 35 ((a0).toNatClampNeg)) = (Int32.ofInt (-1))) → Q (some (.int (Int32.ofInt 0))) (hp p s q I J))))))))))) : mm_s SL xs (d + 1) 94 [.ref 33, .int a0, .int a1] (hp p s q I J) Q := by
  refine e_X8_takeBack rfl ?_
  refine hs_L (L2 := [some (.ref 33), some (.int a0), some (.int a1)]) rfl ?_
  refine sp_iload_n 1 rfl rfl rfl ?_
  refine sp_if_lt 4 rfl rfl (fun q_ => ?_) (fun q_ => ?_)
  · have k := k.1 q_
    refine sp_iconst 29 rfl rfl ?_
    exact st_zret rfl rfl (by decide) (Nat.le_refl _) (Nat.le_refl _) k
  · have k := k.2 q_
    refine sp_iload_n 5 rfl rfl rfl ?_
    refine sp_aload_n 6 rfl rfl rfl ?_
    refine hq_getI 9 rfl rfl rfl ?_
    refine sp_ic_ge 12 rfl rfl (fun q_ => ?_) (fun q_ => ?_)
    · have k := k.1 q_
      refine sp_iconst 29 rfl rfl ?_
      exact st_zret rfl rfl (by decide) (Nat.le_refl _) (Nat.le_refl _) k
    · have k := k.2 q_
      refine sp_iload_n 13 rfl rfl rfl ?_
      refine sp_bipush 15 rfl rfl ?_
      refine sp_I (y := Int32.ofInt 40) rfl ?_
      refine sp_ic_ge 18 rfl rfl (fun q_ => ?_) (fun q_ => ?_)
      · have k := k.1 q_
        refine sp_iconst 29 rfl rfl ?_
        exact st_zret rfl rfl (by decide) (Nat.le_refl _) (Nat.le_refl _) k
      · have k := k.2 q_
        refine sp_aload_n 19 rfl rfl rfl ?_
        refine hq_getR 22 rfl rfl rfl rfl ?_
        refine sp_iload_n 23 rfl rfl rfl ?_
        have n1_ := k.1
        have k := k.2
        refine hq_iald 24 rfl rfl n1_ rfl ?_
        refine sp_iconst 25 rfl rfl ?_
        refine sp_ic_eq 28 rfl rfl (fun q_ => ?_) (fun q_ => ?_)
        · have k := k.1 q_
          refine sp_aload_n 31 rfl rfl rfl ?_
          refine hq_getR 34 rfl rfl rfl rfl ?_
          refine sp_iload_n 35 rfl rfl rfl ?_
          refine sp_iload_n 36 rfl rfl rfl ?_
          refine hq_iast 37 rfl rfl n1_ rfl ?_
          refine sp_iconst 38 rfl rfl ?_
          exact st_zret rfl rfl (by decide) (Nat.le_refl _) (Nat.le_refl _) k
        · have k := k.2 q_
          refine sp_iconst 29 rfl rfl ?_
          exact st_zret rfl rfl (by decide) (Nat.le_refl _) (Nat.le_refl _) k
def w_X8_sift_2 (SL : Nat) (xs : Nat → Int32) (d : Nat) (p s q : Nat) (Q : Option Value → mm_H → Prop) (v1 : Int32) (v2 : Int32) (I : Nat → Nat → Int32) (J : Nat → Nat → Int64) : Prop := mm_w SL xs (mm_s SL xs (d + 0)) mm_am kX8_sift 0 0 none Q 2 [some (.ref 33), some (.int v1), some (.int v2), none, none] [] (hp p s q I J) 0 0
def w_X8_sift_24 (SL : Nat) (xs : Nat → Int32) (d : Nat) (p s q : Nat) (Q : Option Value → mm_H → Prop) (v1 : Int32) (v2 : Int32) (I : Nat → Nat → Int32) (J : Nat → Nat → Int64) : Prop := mm_w SL xs (mm_s SL xs (d + 0)) mm_am kX8_sift 0 0 none Q 24 [some (.ref 33), some (.int v1), some (.int v2), none, none] [] (hp p s q I J) 0 0
def w_X8_sift_81 (SL : Nat) (xs : Nat → Int32) (d : Nat) (p s q : Nat) (Q : Option Value → mm_H → Prop) (v1 : Int32) (v2 : Int32) (v3 : Int32) (v4 : Int32) (I : Nat → Nat → Int32) (J : Nat → Nat → Int64) : Prop := mm_w SL xs (mm_s SL xs (d + 0)) mm_am kX8_sift 0 0 none Q 81 [some (.ref 33), some (.int v1), some (.int v2), some (.int v3), some (.int v4)] [] (hp p s q I J) 0 0
theorem sg_X8_sift {SL : Nat} {xs : Nat → Int32} {d : Nat} {p s q : Nat} {Q : Option Value → mm_H → Prop} {a0 : Int32} {I : Nat → Nat → Int32} {J : Nat → Nat → Int64}  (k : w_X8_sift_2 SL xs d p s q Q a0 (Int32.ofInt 0) I J) : mm_s SL xs (d + 1) 95 [.ref 33, .int a0] (hp p s q I J) Q := by
  refine e_X8_sift rfl ?_
  refine hs_L (L2 := [some (.ref 33), some (.int a0), none, none, none]) rfl ?_
  refine sp_iconst 1 rfl rfl ?_
  refine hs_istore_n 2 (L2 := [some (.ref 33), some (.int a0), some (.int (Int32.ofInt 0)), none, none]) rfl rfl rfl rfl ?_
  exact k
theorem sg_X8_sift_2 {SL : Nat} {xs : Nat → Int32} {d : Nat} {p s q : Nat} {Q : Option Value → mm_H → Prop} {v1 : Int32} {v2 : Int32} {I : Nat → Nat → Int32} {J : Nat → Nat → Int64}  (k : (((Int32.ofInt 4) ≤ v2 → w_X8_sift_24 SL xs d p s q Q v1 (Int32.ofInt 0) I J) ∧ (¬ ((Int32.ofInt 4) ≤ v2) → (vp_in v2 4 ∧ w_X8_sift_2 SL xs d p s q Q v1 (v2 + Int32.ofInt 1) I (mm_u J 37 ((v2).toNatClampNeg) (Int64.ofInt (-1))))))) : w_X8_sift_2 SL xs d p s q Q v1 v2 I J := by
  unfold w_X8_sift_2
  refine sp_iload_n 3 rfl rfl rfl ?_
  refine sp_iconst 4 rfl rfl ?_
  refine sp_ic_ge 7 rfl rfl (fun q_ => ?_) (fun q_ => ?_)
  · have k := k.1 q_
    refine sp_iconst 23 rfl rfl ?_
    refine hs_istore_n 24 (L2 := [some (.ref 33), some (.int v1), some (.int (Int32.ofInt 0)), none, none]) rfl rfl rfl rfl ?_
    exact k
  · have k := k.2 q_
    refine sp_aload_n 8 rfl rfl rfl ?_
    refine hq_getR 11 rfl rfl rfl rfl ?_
    refine sp_iload_n 12 rfl rfl rfl ?_
    refine sp_ldc2 15 rfl rfl ?_
    have n1_ := k.1
    have k := k.2
    refine hq_last 16 rfl rfl n1_ rfl ?_
    refine hs_iinc 19 (L2 := [some (.ref 33), some (.int v1), some (.int (v2 + Int32.ofInt 1)), none, none]) rfl rfl rfl rfl rfl ?_
    refine sp_goto rfl ?_
    exact k
theorem sg_X8_sift_24 {SL : Nat} {xs : Nat → Int32} {d : Nat} {p s q : Nat} {Q : Option Value → mm_H → Prop} {v1 : Int32} {v2 : Int32} {I : Nat → Nat → Int32} {J : Nat → Nat → Int64}  (k : (((I 33 0) ≤ v2 → Q none (hp p s q I J)) ∧ (¬ ((I 33 0) ≤ v2) → (((Int32.ofInt 40) ≤ v2 → Q none (hp p s q I J)) ∧ (¬ ((Int32.ofInt 40) ≤ v2) → (vp_in v2 40 ∧ (((I 35 ((v2).toNatClampNeg)) = (Int32.ofInt (-1)) → ((v1 < (I 34 ((v2).toNatClampNeg)) → w_X8_sift_24 SL xs d p s q Q v1 (v2 + Int32.ofInt 1) I J) ∧ (¬ (v1 < (I 34 ((v2).toNatClampNeg))) → w_X8_sift_81 SL xs d p s q Q v1 v2 (Int32.ofInt 0) (Int32.ofInt 0) I J))) ∧ (¬ ((I 35 ((v2).toNatClampNeg)) = (Int32.ofInt (-1))) → ((v1 < (I 35 ((v2).toNatClampNeg)) → ((v1 < (I 34 ((v2).toNatClampNeg)) → w_X8_sift_24 SL xs d p s q Q v1 (v2 + Int32.ofInt 1) I J) ∧ (¬ (v1 < (I 34 ((v2).toNatClampNeg))) → w_X8_sift_81 SL xs d p s q Q v1 v2 (Int32.ofInt 0) (Int32.ofInt 0) I J))) ∧ (¬ (v1 < (I 35 ((v2).toNatClampNeg))) → ((v1 < (I 34 ((v2).toNatClampNeg)) → w_X8_sift_24 SL xs d p s q Q v1 (v2 + Int32.ofInt 1) I J) ∧ (¬ (v1 < (I 34 ((v2).toNatClampNeg))) → w_X8_sift_24 SL xs d p s q Q v1 (v2 + Int32.ofInt 1) I J)))))))))))) : w_X8_sift_24 SL xs d p s q Q v1 v2 I J := by
  unfold w_X8_sift_24
  refine sp_iload_n 25 rfl rfl rfl ?_
  refine sp_aload_n 26 rfl rfl rfl ?_
  refine hq_getI 29 rfl rfl rfl ?_
  refine sp_ic_ge 32 rfl rfl (fun q_ => ?_) (fun q_ => ?_)
  · have k := k.1 q_
    exact st_vret rfl rfl (Nat.le_refl _) (Nat.le_refl _) k
  · have k := k.2 q_
    refine sp_iload_n 33 rfl rfl rfl ?_
    refine sp_bipush 35 rfl rfl ?_
    refine sp_I (y := Int32.ofInt 40) rfl ?_
    refine sp_ic_ge 38 rfl rfl (fun q_ => ?_) (fun q_ => ?_)
    · have k := k.1 q_
      exact st_vret rfl rfl (Nat.le_refl _) (Nat.le_refl _) k
    · have k := k.2 q_
      refine sp_aload_n 39 rfl rfl rfl ?_
      refine hq_getR 42 rfl rfl rfl rfl ?_
      refine sp_iload_n 43 rfl rfl rfl ?_
      have n2_ := k.1
      have k := k.2
      refine hq_iald 44 rfl rfl n2_ rfl ?_
      refine sp_iconst 45 rfl rfl ?_
      refine sp_ic_eq 48 rfl rfl (fun q_ => ?_) (fun q_ => ?_)
      · have k := k.1 q_
        refine sp_iconst 63 rfl rfl ?_
        refine hs_istore_n 64 (L2 := [some (.ref 33), some (.int v1), some (.int v2), some (.int (Int32.ofInt 0)), none]) rfl rfl rfl rfl ?_
        refine sp_aload_n 65 rfl rfl rfl ?_
        refine hq_getR 68 rfl rfl rfl rfl ?_
        refine sp_iload_n 69 rfl rfl rfl ?_
        refine hq_iald 70 rfl rfl n2_ rfl ?_
        refine sp_iload_n 71 rfl rfl rfl ?_
        refine sp_ic_gt 74 rfl rfl (fun q_ => ?_) (fun q_ => ?_)
        · have k := k.1 q_
          refine hs_iinc 117 (L2 := [some (.ref 33), some (.int v1), some (.int (v2 + Int32.ofInt 1)), some (.int (Int32.ofInt 0)), none]) rfl rfl rfl rfl rfl ?_
          refine sp_goto rfl ?_
          refine st_wk (L1 := [some (.ref 33), some (.int v1), some (.int (v2 + Int32.ofInt 1)), none, none]) ⟨.inr rfl, .inr rfl, .inr rfl, .inl rfl, .inl rfl, trivial⟩ ?_
          exact k
        · have k := k.2 q_
          refine sp_iload_n 75 rfl rfl rfl ?_
          refine sp_if_ne 78 rfl rfl (fun q_ => absurd q_ (by decide)) (fun _ => ?_)
          refine sp_iconst 79 rfl rfl ?_
          refine hs_istore 81 (L2 := [some (.ref 33), some (.int v1), some (.int v2), some (.int (Int32.ofInt 0)), some (.int (Int32.ofInt 0))]) rfl rfl rfl rfl ?_
          exact k
      · have k := k.2 q_
        refine sp_aload_n 49 rfl rfl rfl ?_
        refine hq_getR 52 rfl rfl rfl rfl ?_
        refine sp_iload_n 53 rfl rfl rfl ?_
        refine hq_iald 54 rfl rfl n2_ rfl ?_
        refine sp_iload_n 55 rfl rfl rfl ?_
        refine sp_ic_gt 58 rfl rfl (fun q_ => ?_) (fun q_ => ?_)
        · have k := k.1 q_
          refine sp_iconst 63 rfl rfl ?_
          refine hs_istore_n 64 (L2 := [some (.ref 33), some (.int v1), some (.int v2), some (.int (Int32.ofInt 0)), none]) rfl rfl rfl rfl ?_
          refine sp_aload_n 65 rfl rfl rfl ?_
          refine hq_getR 68 rfl rfl rfl rfl ?_
          refine sp_iload_n 69 rfl rfl rfl ?_
          refine hq_iald 70 rfl rfl n2_ rfl ?_
          refine sp_iload_n 71 rfl rfl rfl ?_
          refine sp_ic_gt 74 rfl rfl (fun q_ => ?_) (fun q_ => ?_)
          · have k := k.1 q_
            refine hs_iinc 117 (L2 := [some (.ref 33), some (.int v1), some (.int (v2 + Int32.ofInt 1)), some (.int (Int32.ofInt 0)), none]) rfl rfl rfl rfl rfl ?_
            refine sp_goto rfl ?_
            refine st_wk (L1 := [some (.ref 33), some (.int v1), some (.int (v2 + Int32.ofInt 1)), none, none]) ⟨.inr rfl, .inr rfl, .inr rfl, .inl rfl, .inl rfl, trivial⟩ ?_
            exact k
          · have k := k.2 q_
            refine sp_iload_n 75 rfl rfl rfl ?_
            refine sp_if_ne 78 rfl rfl (fun q_ => absurd q_ (by decide)) (fun _ => ?_)
            refine sp_iconst 79 rfl rfl ?_
            refine hs_istore 81 (L2 := [some (.ref 33), some (.int v1), some (.int v2), some (.int (Int32.ofInt 0)), some (.int (Int32.ofInt 0))]) rfl rfl rfl rfl ?_
            exact k
        · have k := k.2 q_
          refine sp_iconst 59 rfl rfl ?_
          refine sp_goto rfl ?_
          refine hs_istore_n 64 (L2 := [some (.ref 33), some (.int v1), some (.int v2), some (.int (Int32.ofInt 1)), none]) rfl rfl rfl rfl ?_
          refine sp_aload_n 65 rfl rfl rfl ?_
          refine hq_getR 68 rfl rfl rfl rfl ?_
          refine sp_iload_n 69 rfl rfl rfl ?_
          refine hq_iald 70 rfl rfl n2_ rfl ?_
          refine sp_iload_n 71 rfl rfl rfl ?_
          refine sp_ic_gt 74 rfl rfl (fun q_ => ?_) (fun q_ => ?_)
          · have k := k.1 q_
            refine hs_iinc 117 (L2 := [some (.ref 33), some (.int v1), some (.int (v2 + Int32.ofInt 1)), some (.int (Int32.ofInt 1)), none]) rfl rfl rfl rfl rfl ?_
            refine sp_goto rfl ?_
            refine st_wk (L1 := [some (.ref 33), some (.int v1), some (.int (v2 + Int32.ofInt 1)), none, none]) ⟨.inr rfl, .inr rfl, .inr rfl, .inl rfl, .inl rfl, trivial⟩ ?_
            exact k
          · have k := k.2 q_
            refine sp_iload_n 75 rfl rfl rfl ?_
            refine sp_if_ne 78 rfl rfl (fun _ => ?_) (fun q_ => absurd q_ (by decide))
            refine hs_iinc 117 (L2 := [some (.ref 33), some (.int v1), some (.int (v2 + Int32.ofInt 1)), some (.int (Int32.ofInt 1)), none]) rfl rfl rfl rfl rfl ?_
            refine sp_goto rfl ?_
            refine st_wk (L1 := [some (.ref 33), some (.int v1), some (.int (v2 + Int32.ofInt 1)), none, none]) ⟨.inr rfl, .inr rfl, .inr rfl, .inl rfl, .inl rfl, trivial⟩ ?_
            exact k
theorem sg_X8_sift_81 {SL : Nat} {xs : Nat → Int32} {d : Nat} {p s q : Nat} {Q : Option Value → mm_H → Prop} {v1 : Int32} {v2 : Int32} {v3 : Int32} {v4 : Int32} {I : Nat → Nat → Int32} {J : Nat → Nat → Int64}  (k : (((Int32.ofInt 4) ≤ v4 → w_X8_sift_24 SL xs d p s q Q v1 (v2 + Int32.ofInt 1) I J) ∧ (¬ ((Int32.ofInt 4) ≤ v4) → (vp_in v4 4 ∧ (vp_in ((v2 * (Int32.ofInt 4)) + v4) 160 ∧ w_X8_sift_81 SL xs d p s q Q v1 v2 v3 (v4 + Int32.ofInt 1) I (mm_u J 37 ((v4).toNatClampNeg) ((J 37 ((v4).toNatClampNeg)) &&& (J 36 ((((v2 * (Int32.ofInt 4)) + v4)).toNatClampNeg))))))))) : w_X8_sift_81 SL xs d p s q Q v1 v2 v3 v4 I J := by
  unfold w_X8_sift_81
  refine sp_iload 83 rfl rfl rfl ?_
  refine sp_iconst 84 rfl rfl ?_
  refine sp_ic_ge 87 rfl rfl (fun q_ => ?_) (fun q_ => ?_)
  · have k := k.1 q_
    refine hs_iinc 117 (L2 := [some (.ref 33), some (.int v1), some (.int (v2 + Int32.ofInt 1)), some (.int v3), some (.int v4)]) rfl rfl rfl rfl rfl ?_
    refine sp_goto rfl ?_
    refine st_wk (L1 := [some (.ref 33), some (.int v1), some (.int (v2 + Int32.ofInt 1)), none, none]) ⟨.inr rfl, .inr rfl, .inr rfl, .inl rfl, .inl rfl, trivial⟩ ?_
    exact k
  · have k := k.2 q_
    refine sp_aload_n 88 rfl rfl rfl ?_
    refine hq_getR 91 rfl rfl rfl rfl ?_
    refine sp_iload 93 rfl rfl rfl ?_
    refine sp_dup2 94 rfl rfl rfl rfl ?_
    have n3_ := k.1
    have k := k.2
    refine hq_lald 95 rfl rfl n3_ rfl ?_
    refine sp_aload_n 96 rfl rfl rfl ?_
    refine hq_getR 99 rfl rfl rfl rfl ?_
    refine sp_iload_n 100 rfl rfl rfl ?_
    refine sp_iconst 101 rfl rfl ?_
    refine sp_imul 102 rfl rfl ?_
    refine sp_iload 104 rfl rfl rfl ?_
    refine sp_iadd 105 rfl rfl ?_
    have n4_ := k.1
    have k := k.2
    refine hq_lald 106 rfl rfl n4_ rfl ?_
    refine sp_land 107 rfl rfl ?_
    refine hq_last 108 rfl rfl n3_ rfl ?_
    refine hs_iinc 111 (L2 := [some (.ref 33), some (.int v1), some (.int v2), some (.int v3), some (.int (v4 + Int32.ofInt 1))]) rfl rfl rfl rfl rfl ?_
    refine sp_goto rfl ?_
    exact k
theorem sg_X8_isFit {SL : Nat} {xs : Nat → Int32} {d : Nat} {p s q : Nat} {Q : Option Value → mm_H → Prop} {a0 : Int32} {I : Nat → Nat → Int32} {J : Nat → Nat → Int64}  (k : ((a0 < (Int32.ofInt 1) → Q (some (.int (Int32.ofInt 0))) (hp p s q I J)) ∧ (¬ (a0 < (Int32.ofInt 1)) → (((Int32.ofInt 200) < a0 → Q (some (.int (Int32.ofInt 0))) (hp p s q I J)) ∧ (¬ ((Int32.ofInt 200) < a0) → (vp_in (a0 / (Int32.ofInt 64)) 4 ∧ (((((((J 37 (((a0 / (Int32.ofInt 64))).toNatClampNeg))).toUInt64 >>> (((a0 - a0 / (Int32.ofInt 64) * (Int32.ofInt 64))).toInt64.toUInt64 &&& Int64.toUInt64 63)).toInt64) &&& (Int64.ofInt 1)) = (Int64.ofInt 0) → Q (some (.int (Int32.ofInt 0))) (hp p s q I J)) ∧ (¬ ((((((J 37 (((a0 / (Int32.ofInt 64))).toNatClampNeg))).toUInt64 >>> (((a0 - a0 / (Int32.ofInt 64) * (Int32.ofInt 64))).toInt64.toUInt64 &&& Int64.toUInt64 63)).toInt64) &&& (Int64.ofInt 1)) = (Int64.ofInt 0)) → Q (some (.int (Int32.ofInt 1))) (hp p s q I J))))))))) : mm_s SL xs (d + 1) 96 [.ref 33, .int a0] (hp p s q I J) Q := by
  refine e_X8_isFit rfl ?_
  refine hs_L (L2 := [some (.ref 33), some (.int a0)]) rfl ?_
  refine sp_iload_n 1 rfl rfl rfl ?_
  refine sp_iconst 2 rfl rfl ?_
  refine sp_ic_lt 5 rfl rfl (fun q_ => ?_) (fun q_ => ?_)
  · have k := k.1 q_
    refine sp_iconst 38 rfl rfl ?_
    exact st_zret rfl rfl (by decide) (Nat.le_refl _) (Nat.le_refl _) k
  · have k := k.2 q_
    refine sp_iload_n 6 rfl rfl rfl ?_
    refine sp_sipush 9 rfl rfl ?_
    refine sp_I (y := Int32.ofInt 200) rfl ?_
    refine sp_ic_gt 12 rfl rfl (fun q_ => ?_) (fun q_ => ?_)
    · have k := k.1 q_
      refine sp_iconst 38 rfl rfl ?_
      exact st_zret rfl rfl (by decide) (Nat.le_refl _) (Nat.le_refl _) k
    · have k := k.2 q_
      refine sp_aload_n 13 rfl rfl rfl ?_
      refine hq_getR 16 rfl rfl rfl rfl ?_
      refine sp_iload_n 17 rfl rfl rfl ?_
      refine sp_bipush 19 rfl rfl ?_
      refine sp_I (y := Int32.ofInt 64) rfl ?_
      refine sp_idiv 20 rfl (by decide) rfl ?_
      have n1_ := k.1
      have k := k.2
      refine hq_lald 21 rfl rfl n1_ rfl ?_
      refine sp_iload_n 22 rfl rfl rfl ?_
      refine sp_bipush 24 rfl rfl ?_
      refine sp_I (y := Int32.ofInt 64) rfl ?_
      refine sp_irem 25 rfl (by decide) rfl ?_
      refine sp_lushr 26 rfl rfl ?_
      refine sp_lconst 27 rfl rfl ?_
      refine sp_J (y := Int64.ofInt 1) rfl ?_
      refine sp_land 28 rfl rfl ?_
      refine sp_lconst 29 rfl rfl ?_
      refine sp_J (y := Int64.ofInt 0) rfl ?_
      refine sp_lcmp 30 rfl rfl ?_
      refine sp_if_eq 33 rfl rfl (fun q_ => ?_) (fun q_ => ?_)
      · have k := k.1 ((lg_cmp_eq _ _).mp q_)
        refine sp_iconst 38 rfl rfl ?_
        exact st_zret rfl rfl (by decide) (Nat.le_refl _) (Nat.le_refl _) k
      · have k := k.2 (fun z_ => q_ ((lg_cmp_eq _ _).mpr z_))
        refine sp_iconst 34 rfl rfl ?_
        refine sp_goto rfl ?_
        exact st_zret rfl rfl (by decide) (Nat.le_refl _) (Nat.le_refl _) k
def w_X9_addFour_3 (SL : Nat) (xs : Nat → Int32) (d : Nat) (p s q : Nat) (Q : Option Value → mm_H → Prop) (v1 : Int32) (v2 : Int32) (I : Nat → Nat → Int32) (J : Nat → Nat → Int64) : Prop := mm_w SL xs (mm_s SL xs (d + 0)) mm_am kX9_addFour 0 0 none Q 3 [some (.ref 4), some (.int v1), some (.int v2)] [] (hp p s q I J) 0 0
theorem sg_X9_addFour {SL : Nat} {xs : Nat → Int32} {d : Nat} {p s q : Nat} {Q : Option Value → mm_H → Prop} {a0 : Int32} {I : Nat → Nat → Int32} {J : Nat → Nat → Int64}  (k : w_X9_addFour_3 SL xs d p s q Q a0 (Int32.ofInt 24) I J) : mm_s SL xs (d + 1) 103 [.ref 4, .int a0] (hp p s q I J) Q := by
  refine e_X9_addFour rfl ?_
  refine hs_L (L2 := [some (.ref 4), some (.int a0), none]) rfl ?_
  refine sp_bipush 2 rfl rfl ?_
  refine sp_I (y := Int32.ofInt 24) rfl ?_
  refine hs_istore_n 3 (L2 := [some (.ref 4), some (.int a0), some (.int (Int32.ofInt 24))]) rfl rfl rfl rfl ?_
  exact k
theorem sg_X9_addFour_3 {SL : Nat} {xs : Nat → Int32} {d : Nat} {p s q : Nat} {Q : Option Value → mm_H → Prop} {v1 : Int32} {v2 : Int32} {I : Nat → Nat → Int32} {J : Nat → Nat → Int64}  (k : ((v2 < Int32.ofInt 0 → Q none (hp p s q I J)) ∧ (¬ (v2 < Int32.ofInt 0) → (((Int32.ofInt 1200) ≤ (I 4 1) → Q none (hp p s q I J)) ∧ (¬ ((Int32.ofInt 1200) ≤ (I 4 1)) → (vp_in (I 4 1) 1200 ∧ w_X9_addFour_3 SL xs d p s q Q v1 (v2 + Int32.ofInt (-8)) (mm_u (mm_u I 5 (((I 4 1)).toNatClampNeg) (((((v1).toUInt32 >>> ((v2).toUInt32 &&& Int32.toUInt32 31)).toInt32).toInt8.toInt32).toInt8.toInt32)) 4 1 ((I 4 1) + (Int32.ofInt 1))) J)))))) : w_X9_addFour_3 SL xs d p s q Q v1 v2 I J := by
  unfold w_X9_addFour_3
  refine sp_iload_n 4 rfl rfl rfl ?_
  refine sp_if_lt 7 rfl rfl (fun q_ => ?_) (fun q_ => ?_)
  · have k := k.1 q_
    exact st_vret rfl rfl (Nat.le_refl _) (Nat.le_refl _) k
  · have k := k.2 q_
    refine sp_aload_n 8 rfl rfl rfl ?_
    refine hq_getI 11 rfl rfl rfl ?_
    refine sp_aload_n 12 rfl rfl rfl ?_
    refine hq_getR 15 rfl rfl rfl rfl ?_
    refine hq_alen 16 rfl rfl rfl rfl ?_
    refine sp_I (y := Int32.ofInt 1200) rfl ?_
    refine sp_ic_ge 19 rfl rfl (fun q_ => ?_) (fun q_ => ?_)
    · have k := k.1 q_
      exact st_vret rfl rfl (Nat.le_refl _) (Nat.le_refl _) k
    · have k := k.2 q_
      refine sp_aload_n 20 rfl rfl rfl ?_
      refine hq_getR 23 rfl rfl rfl rfl ?_
      refine sp_aload_n 24 rfl rfl rfl ?_
      refine hq_getI 27 rfl rfl rfl ?_
      refine sp_iload_n 28 rfl rfl rfl ?_
      refine sp_iload_n 29 rfl rfl rfl ?_
      refine sp_iushr 30 rfl rfl ?_
      refine sp_i2b 31 rfl rfl ?_
      have n1_ := k.1
      have k := k.2
      refine hq_bast 32 rfl rfl n1_ rfl ?_
      refine sp_aload_n 33 rfl rfl rfl ?_
      refine sp_dup 34 rfl rfl rfl ?_
      refine hq_getI 37 rfl rfl rfl ?_
      refine sp_I (y := (I 4 1)) (by simp [mm_u]) ?_
      refine sp_iconst 38 rfl rfl ?_
      refine sp_iadd 39 rfl rfl ?_
      refine hq_putI 42 rfl rfl rfl ?_
      refine hs_iinc 45 (L2 := [some (.ref 4), some (.int v1), some (.int (v2 + Int32.ofInt (-8)))]) rfl rfl rfl rfl rfl ?_
      refine sp_goto rfl ?_
      exact k
def w_X9_kindOf_2 (SL : Nat) (xs : Nat → Int32) (d : Nat) (p s q : Nat) (Q : Option Value → mm_H → Prop) (v1 : Int64) (v3 : Int32) (I : Nat → Nat → Int32) (J : Nat → Nat → Int64) : Prop := mm_w SL xs (mm_s SL xs (d + 0)) mm_am kX9_kindOf 0 0 (some .int) Q 2 [some (.ref 4), some (.long v1), none, some (.int v3)] [] (hp p s q I J) 0 0
theorem sg_X9_kindOf {SL : Nat} {xs : Nat → Int32} {d : Nat} {p s q : Nat} {Q : Option Value → mm_H → Prop} {a0 : Int64} {I : Nat → Nat → Int32} {J : Nat → Nat → Int64}  (k : w_X9_kindOf_2 SL xs d p s q Q a0 (Int32.ofInt 0) I J) : mm_s SL xs (d + 1) 108 [.ref 4, .long a0] (hp p s q I J) Q := by
  refine e_X9_kindOf rfl ?_
  refine hs_L (L2 := [some (.ref 4), some (.long a0), none, none]) rfl ?_
  refine sp_iconst 1 rfl rfl ?_
  refine hs_istore_n 2 (L2 := [some (.ref 4), some (.long a0), none, some (.int (Int32.ofInt 0))]) rfl rfl rfl rfl ?_
  exact k
theorem sg_X9_kindOf_2 {SL : Nat} {xs : Nat → Int32} {d : Nat} {p s q : Nat} {Q : Option Value → mm_H → Prop} {v1 : Int64} {v3 : Int32} {I : Nat → Nat → Int32} {J : Nat → Nat → Int64}  (k : (((Int32.ofInt 22) ≤ v3 → Q (some (.int (Int32.ofInt 3))) (hp p s q I J)) ∧ (¬ ((Int32.ofInt 22) ≤ v3) → (vp_in v3 22 ∧ (((J 6 ((v3).toNatClampNeg)) = v1 → Q (some (.int ((Int32.ofInt 128) + v3))) (hp p s q I J)) ∧ (¬ ((J 6 ((v3).toNatClampNeg)) = v1) → w_X9_kindOf_2 SL xs d p s q Q v1 (v3 + Int32.ofInt 1) I J)))))) : w_X9_kindOf_2 SL xs d p s q Q v1 v3 I J := by
  unfold w_X9_kindOf_2
  refine sp_iload_n 3 rfl rfl rfl ?_
  refine sp_aload_n 4 rfl rfl rfl ?_
  refine hq_getR 7 rfl rfl rfl rfl ?_
  refine hq_alen 8 rfl rfl rfl rfl ?_
  refine sp_I (y := Int32.ofInt 22) rfl ?_
  refine sp_ic_ge 11 rfl rfl (fun q_ => ?_) (fun q_ => ?_)
  · have k := k.1 q_
    refine sp_iconst 35 rfl rfl ?_
    exact st_iret rfl rfl (Nat.le_refl _) (Nat.le_refl _) k
  · have k := k.2 q_
    refine sp_aload_n 12 rfl rfl rfl ?_
    refine hq_getR 15 rfl rfl rfl rfl ?_
    refine sp_iload_n 16 rfl rfl rfl ?_
    have n1_ := k.1
    have k := k.2
    refine hq_lald 17 rfl rfl n1_ rfl ?_
    refine sp_lload_n 18 rfl rfl rfl ?_
    refine sp_lcmp 19 rfl rfl ?_
    refine sp_if_ne 22 rfl rfl (fun q_ => ?_) (fun q_ => ?_)
    · have k := k.2 (fun z_ => q_ ((lg_cmp_eq _ _).mpr z_))
      refine hs_iinc 31 (L2 := [some (.ref 4), some (.long v1), none, some (.int (v3 + Int32.ofInt 1))]) rfl rfl rfl rfl rfl ?_
      refine sp_goto rfl ?_
      exact k
    · have k := k.1 ((lg_cmp_eq _ _).mp q_)
      refine sp_sipush 25 rfl rfl ?_
      refine sp_I (y := Int32.ofInt 128) rfl ?_
      refine sp_iload_n 26 rfl rfl rfl ?_
      refine sp_iadd 27 rfl rfl ?_
      exact st_iret rfl rfl (Nat.le_refl _) (Nat.le_refl _) k
theorem sg_X9_byteAt {SL : Nat} {xs : Nat → Int32} {d : Nat} {p s q : Nat} {Q : Option Value → mm_H → Prop} {a0 : Int32} {I : Nat → Nat → Int32} {J : Nat → Nat → Int64}  (k : ((a0 < Int32.ofInt 0 → Q (some (.int (Int32.ofInt 0))) (hp p s q I J)) ∧ (¬ (a0 < Int32.ofInt 0) → (((I 4 1) ≤ a0 → Q (some (.int (Int32.ofInt 0))) (hp p s q I J)) ∧ (¬ ((I 4 1) ≤ a0) → (((Int32.ofInt 1200) ≤ a0 → Q (some (.int (Int32.ofInt 0))) (hp p s q I J)) ∧ (¬ ((Int32.ofInt 1200) ≤ a0) → (vp_in a0 1200 ∧ Q (some (.int ((I 5 ((a0).toNatClampNeg)) &&& (Int32.ofInt 255)))) (hp p s q I J))))))))) : mm_s SL xs (d + 1) 109 [.ref 4, .int a0] (hp p s q I J) Q := by
  refine e_X9_byteAt rfl ?_
  refine hs_L (L2 := [some (.ref 4), some (.int a0)]) rfl ?_
  refine sp_iload_n 1 rfl rfl rfl ?_
  refine sp_if_lt 4 rfl rfl (fun q_ => ?_) (fun q_ => ?_)
  · have k := k.1 q_
    refine sp_iconst 35 rfl rfl ?_
    exact st_iret rfl rfl (Nat.le_refl _) (Nat.le_refl _) k
  · have k := k.2 q_
    refine sp_iload_n 5 rfl rfl rfl ?_
    refine sp_aload_n 6 rfl rfl rfl ?_
    refine hq_getI 9 rfl rfl rfl ?_
    refine sp_ic_ge 12 rfl rfl (fun q_ => ?_) (fun q_ => ?_)
    · have k := k.1 q_
      refine sp_iconst 35 rfl rfl ?_
      exact st_iret rfl rfl (Nat.le_refl _) (Nat.le_refl _) k
    · have k := k.2 q_
      refine sp_iload_n 13 rfl rfl rfl ?_
      refine sp_aload_n 14 rfl rfl rfl ?_
      refine hq_getR 17 rfl rfl rfl rfl ?_
      refine hq_alen 18 rfl rfl rfl rfl ?_
      refine sp_I (y := Int32.ofInt 1200) rfl ?_
      refine sp_ic_ge 21 rfl rfl (fun q_ => ?_) (fun q_ => ?_)
      · have k := k.1 q_
        refine sp_iconst 35 rfl rfl ?_
        exact st_iret rfl rfl (Nat.le_refl _) (Nat.le_refl _) k
      · have k := k.2 q_
        refine sp_aload_n 22 rfl rfl rfl ?_
        refine hq_getR 25 rfl rfl rfl rfl ?_
        refine sp_iload_n 26 rfl rfl rfl ?_
        have n1_ := k.1
        have k := k.2
        refine hq_bald 27 rfl rfl n1_ rfl ?_
        refine sp_sipush 30 rfl rfl ?_
        refine sp_I (y := Int32.ofInt 255) rfl ?_
        refine sp_iand 31 rfl rfl ?_
        refine sp_goto rfl ?_
        exact st_iret rfl rfl (Nat.le_refl _) (Nat.le_refl _) k
theorem sg_J9_floorMod_7cf53 {SL : Nat} {xs : Nat → Int32} {d : Nat} {p s q : Nat} {Q : Option Value → mm_H → Prop} {a0 : Int32} {a1 : Int32} {I : Nat → Nat → Int32} {J : Nat → Nat → Int64}  (k : (¬ a1 = 0 ∧ ((Int32.ofInt 0 ≤ (a0 ^^^ a1) → Q (some (.int (a0 - a0 / a1 * a1))) (hp p s q I J)) ∧ (¬ (Int32.ofInt 0 ≤ (a0 ^^^ a1)) → (((a0 - a0 / a1 * a1) = Int32.ofInt 0 → Q (some (.int (a0 - a0 / a1 * a1))) (hp p s q I J)) ∧ (¬ ((a0 - a0 / a1 * a1) = Int32.ofInt 0) → Q (some (.int ((a0 - a0 / a1 * a1) + a1))) (hp p s q I J))))))) : mm_s SL xs (d + 1) 277 [.int a0, .int a1] (hp p s q I J) Q := by
  refine e_J9_floorMod_7cf53 rfl ?_
  refine hs_L (L2 := [some (.int a0), some (.int a1), none]) rfl ?_
  refine sp_iload_n 1 rfl rfl rfl ?_
  refine sp_iload_n 2 rfl rfl rfl ?_
  have n1_ := k.1
  have k := k.2
  refine sp_irem 3 rfl n1_ rfl ?_
  refine hs_istore_n 4 (L2 := [some (.int a0), some (.int a1), some (.int (a0 - a0 / a1 * a1))]) rfl rfl rfl rfl ?_
  refine sp_iload_n 5 rfl rfl rfl ?_
  refine sp_iload_n 6 rfl rfl rfl ?_
  refine sp_ixor 7 rfl rfl ?_
  refine sp_if_ge 10 rfl rfl (fun q_ => ?_) (fun q_ => ?_)
  · have k := k.1 q_
    refine sp_iload_n 19 rfl rfl rfl ?_
    exact st_iret rfl rfl (Nat.le_refl _) (Nat.le_refl _) k
  · have k := k.2 q_
    refine sp_iload_n 11 rfl rfl rfl ?_
    refine sp_if_eq 14 rfl rfl (fun q_ => ?_) (fun q_ => ?_)
    · have k := k.1 q_
      refine sp_iload_n 19 rfl rfl rfl ?_
      exact st_iret rfl rfl (Nat.le_refl _) (Nat.le_refl _) k
    · have k := k.2 q_
      refine sp_iload_n 15 rfl rfl rfl ?_
      refine sp_iload_n 16 rfl rfl rfl ?_
      refine sp_iadd 17 rfl rfl ?_
      exact st_iret rfl rfl (Nat.le_refl _) (Nat.le_refl _) k
theorem sg_X1_startFrom {SL : Nat} {xs : Nat → Int32} {d : Nat} {p s q : Nat} {Q : Option Value → mm_H → Prop} {o : Nat} {a0 : Nat} {a1 : Int32} {I : Nat → Nat → Int32} {J : Nat → Nat → Int64} (h_a0 : isP a0) (h_o : isC o) (k : (mm_s SL xs (d + 1) 281 [.ref (o + 1), .int (Int32.ofInt 0)] (hp p s q (mm_u (mm_u (mm_u (mm_u (mm_u (mm_u I o 2 (Int32.ofInt 0)) o 3 (Int32.ofInt (-1))) o 4 (Int32.ofInt (-1))) o 5 (Int32.ofInt 0)) o 9 a1) o 10 (Int32.ofInt 0)) (mm_u J o 1 (sx_X6_all (I a0 0)))) (fun r_ h_ => ∃ I1 J1, r_ = none ∧ h_ = hp p s q I1 J1 ∧ (mm_s SL xs (d + 1) 281 [.ref (o + 2), .int (Int32.ofInt (-1))] (hp p s q I1 J1) (fun r_ h_ => ∃ I2 J2, r_ = none ∧ h_ = hp p s q I2 J2 ∧ Q none (hp p s q I2 J2)))))) : mm_s SL xs (d + 2) 13 [.ref o, .ref a0, .int a1] (hp p s q I J) Q := by
  refine e_X1_startFrom rfl ?_
  refine hs_L (L2 := [some (.ref o), some (.ref a0), some (.int a1)]) rfl ?_
  refine sp_aload_n 1 rfl rfl rfl ?_
  refine sp_aload_n 2 rfl rfl rfl ?_
  refine hq_getI 5 rfl (kP0 h_a0) rfl ?_
  refine sc_S 8 rfl rfl rfl rfl (Nat.le_refl _) (Nat.le_refl _) rfl ?_
  refine cx_X6_all ?_
  refine hs_S (st2 := [.long (sx_X6_all (I a0 0)), .ref o]) rfl ?_
  refine hq_putJ 11 rfl (kC0 h_o) rfl ?_
  refine sp_aload_n 12 rfl rfl rfl ?_
  refine sp_iconst 13 rfl rfl ?_
  refine hq_putI 16 rfl (kC0 h_o) rfl ?_
  refine sp_aload_n 17 rfl rfl rfl ?_
  refine sp_iconst 18 rfl rfl ?_
  refine hq_putI 21 rfl (kC0 h_o) rfl ?_
  refine sp_aload_n 22 rfl rfl rfl ?_
  refine sp_iconst 23 rfl rfl ?_
  refine hq_putI 26 rfl (kC0 h_o) rfl ?_
  refine sp_aload_n 27 rfl rfl rfl ?_
  refine sp_iconst 28 rfl rfl ?_
  refine hq_putI 31 rfl (kC0 h_o) rfl ?_
  refine sp_aload_n 32 rfl rfl rfl ?_
  refine sp_iload_n 33 rfl rfl rfl ?_
  refine hq_putI 36 rfl (kC0 h_o) rfl ?_
  refine sp_aload_n 37 rfl rfl rfl ?_
  refine sp_iconst 38 rfl rfl ?_
  refine hq_putI 41 rfl (kC0 h_o) rfl ?_
  refine sp_aload_n 42 rfl rfl rfl ?_
  refine hq_getR 45 rfl (kC0 h_o) (rC1 h_o) rfl ?_
  refine sp_iconst 46 rfl rfl ?_
  refine sc_S 49 rfl rfl rfl rfl (Nat.le_refl _) (Nat.le_refl _) rfl ?_
  refine mm_s_mono _ _ _ _ _ _ ?_ k
  rintro r_ h_ ⟨I1, J1, rfl, rfl, k⟩
  refine hs_S (st2 := []) rfl ?_
  refine sp_aload_n 50 rfl rfl rfl ?_
  refine hq_getR 53 rfl (kC0 h_o) (rC2 h_o) rfl ?_
  refine sp_iconst 54 rfl rfl ?_
  refine sc_S 57 rfl rfl rfl rfl (Nat.le_refl _) (Nat.le_refl _) rfl ?_
  refine mm_s_mono _ _ _ _ _ _ ?_ k
  rintro r_ h_ ⟨I2, J2, rfl, rfl, k⟩
  refine hs_S (st2 := []) rfl ?_
  exact st_vret rfl rfl (Nat.le_refl _) (Nat.le_refl _) k
theorem sg_X1_comeTo {SL : Nat} {xs : Nat → Int32} {d : Nat} {p s q : Nat} {Q : Option Value → mm_H → Prop} {o : Nat} {a0 : Int32} {I : Nat → Nat → Int32} {J : Nat → Nat → Int64} (h_o : isC o) (k : ((a0 < Int32.ofInt 0 → Q none (hp p s q I J)) ∧ (¬ (a0 < Int32.ofInt 0) → (((Int32.ofInt 60) ≤ a0 → Q none (hp p s q I J)) ∧ (¬ ((Int32.ofInt 60) ≤ a0) → (vp_in a0 60 ∧ Q none (hp p s q (mm_u I (o + 1) ((a0).toNatClampNeg) (Int32.ofInt 0)) (mm_u J o 1 ((J o 1) ||| (sx_X6_bit a0)))))))))) : mm_s SL xs (d + 2) 18 [.ref o, .int a0] (hp p s q I J) Q := by
  refine e_X1_comeTo rfl ?_
  refine hs_L (L2 := [some (.ref o), some (.int a0)]) rfl ?_
  refine sp_iload_n 1 rfl rfl rfl ?_
  refine sp_if_lt 4 rfl rfl (fun q_ => ?_) (fun q_ => ?_)
  · have k := k.1 q_
    exact st_vret rfl rfl (Nat.le_refl _) (Nat.le_refl _) k
  · have k := k.2 q_
    refine sp_iload_n 5 rfl rfl rfl ?_
    refine sp_bipush 7 rfl rfl ?_
    refine sp_I (y := Int32.ofInt 60) rfl ?_
    refine sp_ic_ge 10 rfl rfl (fun q_ => ?_) (fun q_ => ?_)
    · have k := k.1 q_
      exact st_vret rfl rfl (Nat.le_refl _) (Nat.le_refl _) k
    · have k := k.2 q_
      refine sp_aload_n 11 rfl rfl rfl ?_
      refine sp_dup 12 rfl rfl rfl ?_
      refine hq_getJ 15 rfl (kC0 h_o) rfl ?_
      refine sp_iload_n 16 rfl rfl rfl ?_
      refine sc_S 19 rfl rfl rfl rfl (Nat.le_refl _) (Nat.le_refl _) rfl ?_
      refine cx_X6_bit ?_
      refine hs_S (st2 := [.long (sx_X6_bit a0), .long (J o 1), .ref o]) rfl ?_
      refine sp_lor 20 rfl rfl ?_
      refine hq_putJ 23 rfl (kC0 h_o) rfl ?_
      refine sp_aload_n 24 rfl rfl rfl ?_
      refine hq_getR 27 rfl (kC0 h_o) (rC1 h_o) rfl ?_
      refine sp_iload_n 28 rfl rfl rfl ?_
      refine sp_iconst 29 rfl rfl ?_
      have n1_ := k.1
      have k := k.2
      refine hq_iast 30 rfl (kC1 h_o) n1_ rfl ?_
      exact st_vret rfl rfl (Nat.le_refl _) (Nat.le_refl _) k
theorem sg_X2_clear {SL : Nat} {xs : Nat → Int32} {d : Nat} {p s q : Nat} {Q : Option Value → mm_H → Prop}  {I : Nat → Nat → Int32} {J : Nat → Nat → Int64}  (k : (mm_s SL xs (d + 1) 281 [.ref 32, .int (Int32.ofInt 0)] (hp p s q I J) (fun r_ h_ => ∃ I1 J1, r_ = none ∧ h_ = hp p s q I1 J1 ∧ Q none (hp p s q (mm_u I1 31 1 (Int32.ofInt 0)) J1)))) : mm_s SL xs (d + 2) 25 [.ref 31] (hp p s q I J) Q := by
  refine e_X2_clear rfl ?_
  refine hs_L (L2 := [some (.ref 31)]) rfl ?_
  refine sp_aload_n 1 rfl rfl rfl ?_
  refine hq_getR 4 rfl rfl rfl rfl ?_
  refine sp_iconst 5 rfl rfl ?_
  refine sc_S 8 rfl rfl rfl rfl (Nat.le_refl _) (Nat.le_refl _) rfl ?_
  refine mm_s_mono _ _ _ _ _ _ ?_ k
  rintro r_ h_ ⟨I1, J1, rfl, rfl, k⟩
  refine hs_S (st2 := []) rfl ?_
  refine sp_aload_n 9 rfl rfl rfl ?_
  refine sp_iconst 10 rfl rfl ?_
  refine hq_putI 13 rfl rfl rfl ?_
  exact st_vret rfl rfl (Nat.le_refl _) (Nat.le_refl _) k
def w_X2_heaviest_6 (SL : Nat) (xs : Nat → Int32) (d : Nat) (p s q : Nat) (Q : Option Value → mm_H → Prop) (v1 : Int32) (v2 : Int64) (v4 : Int32) (v5 : Int32) (I : Nat → Nat → Int32) (J : Nat → Nat → Int64) : Prop := mm_w SL xs (mm_s SL xs (d + 1)) mm_am kX2_heaviest 0 0 (some .int) Q 6 [some (.ref 31), some (.int v1), some (.long v2), none, some (.int v4), some (.int v5)] [] (hp p s q I J) 0 0
theorem sg_X2_heaviest {SL : Nat} {xs : Nat → Int32} {d : Nat} {p s q : Nat} {Q : Option Value → mm_H → Prop} {a0 : Int32} {a1 : Int64} {I : Nat → Nat → Int32} {J : Nat → Nat → Int64}  (k : w_X2_heaviest_6 SL xs d p s q Q a0 a1 (Int32.ofInt (-1)) (Int32.ofInt 0) I J) : mm_s SL xs (d + 2) 30 [.ref 31, .int a0, .long a1] (hp p s q I J) Q := by
  refine e_X2_heaviest rfl ?_
  refine hs_L (L2 := [some (.ref 31), some (.int a0), some (.long a1), none, none, none]) rfl ?_
  refine sp_iconst 1 rfl rfl ?_
  refine hs_istore 3 (L2 := [some (.ref 31), some (.int a0), some (.long a1), none, some (.int (Int32.ofInt (-1))), none]) rfl rfl rfl rfl ?_
  refine sp_iconst 4 rfl rfl ?_
  refine hs_istore 6 (L2 := [some (.ref 31), some (.int a0), some (.long a1), none, some (.int (Int32.ofInt (-1))), some (.int (Int32.ofInt 0))]) rfl rfl rfl rfl ?_
  exact k
theorem sg_X2_heaviest_6 {SL : Nat} {xs : Nat → Int32} {d : Nat} {p s q : Nat} {Q : Option Value → mm_H → Prop} {v1 : Int32} {v2 : Int64} {v4 : Int32} {v5 : Int32} {I : Nat → Nat → Int32} {J : Nat → Nat → Int64}  (k : ((v1 ≤ v5 → Q (some (.int v4)) (hp p s q I J)) ∧ (¬ (v1 ≤ v5) → (((Int32.ofInt 60) ≤ v5 → Q (some (.int v4)) (hp p s q I J)) ∧ (¬ ((Int32.ofInt 60) ≤ v5) → (((sx_X6_has v2 v5) = Int32.ofInt 0 → ((v4 = (Int32.ofInt (-1)) → w_X2_heaviest_6 SL xs d p s q Q v1 v2 v5 (v5 + Int32.ofInt 1) I J) ∧ (¬ (v4 = (Int32.ofInt (-1))) → (vp_in v5 60 ∧ (mm_s SL xs (d + 1) 29 [.ref 31, .int v4] (hp p s q I J) (fun r_ h_ => ∃ x1 I1 J1, r_ = some (.int x1) ∧ h_ = hp p s q I1 J1 ∧ (((I 32 ((v5).toNatClampNeg)) ≤ x1 → w_X2_heaviest_6 SL xs d p s q Q v1 v2 v4 (v5 + Int32.ofInt 1) I1 J1) ∧ (¬ ((I 32 ((v5).toNatClampNeg)) ≤ x1) → w_X2_heaviest_6 SL xs d p s q Q v1 v2 v5 (v5 + Int32.ofInt 1) I1 J1)))))))) ∧ (¬ ((sx_X6_has v2 v5) = Int32.ofInt 0) → w_X2_heaviest_6 SL xs d p s q Q v1 v2 v4 (v5 + Int32.ofInt 1) I J))))))) : w_X2_heaviest_6 SL xs d p s q Q v1 v2 v4 v5 I J := by
  unfold w_X2_heaviest_6
  refine sp_iload 8 rfl rfl rfl ?_
  refine sp_iload_n 9 rfl rfl rfl ?_
  refine sp_ic_ge 12 rfl rfl (fun q_ => ?_) (fun q_ => ?_)
  · have k := k.1 q_
    refine sp_iload 62 rfl rfl rfl ?_
    exact st_iret rfl rfl (Nat.le_refl _) (Nat.le_refl _) k
  · have k := k.2 q_
    refine sp_iload 14 rfl rfl rfl ?_
    refine sp_bipush 16 rfl rfl ?_
    refine sp_I (y := Int32.ofInt 60) rfl ?_
    refine sp_ic_ge 19 rfl rfl (fun q_ => ?_) (fun q_ => ?_)
    · have k := k.1 q_
      refine sp_iload 62 rfl rfl rfl ?_
      exact st_iret rfl rfl (Nat.le_refl _) (Nat.le_refl _) k
    · have k := k.2 q_
      refine sp_lload_n 20 rfl rfl rfl ?_
      refine sp_iload 22 rfl rfl rfl ?_
      refine sc_S 25 rfl rfl rfl rfl (Nat.le_refl _) (Nat.le_refl _) rfl ?_
      refine cx_X6_has ?_
      refine hs_S (st2 := [.int (sx_X6_has v2 v5)]) rfl ?_
      refine sp_if_ne 28 rfl rfl (fun q_ => ?_) (fun q_ => ?_)
      · have k := k.2 q_
        refine hs_iinc 57 (L2 := [some (.ref 31), some (.int v1), some (.long v2), none, some (.int v4), some (.int (v5 + Int32.ofInt 1))]) rfl rfl rfl rfl rfl ?_
        refine sp_goto rfl ?_
        exact k
      · have k := k.1 q_
        refine sp_iload 30 rfl rfl rfl ?_
        refine sp_iconst 31 rfl rfl ?_
        refine sp_ic_eq 34 rfl rfl (fun q_ => ?_) (fun q_ => ?_)
        · have k := k.1 q_
          refine sp_iload 52 rfl rfl rfl ?_
          refine hs_istore 54 (L2 := [some (.ref 31), some (.int v1), some (.long v2), none, some (.int v5), some (.int v5)]) rfl rfl rfl rfl ?_
          refine hs_iinc 57 (L2 := [some (.ref 31), some (.int v1), some (.long v2), none, some (.int v5), some (.int (v5 + Int32.ofInt 1))]) rfl rfl rfl rfl rfl ?_
          refine sp_goto rfl ?_
          exact k
        · have k := k.2 q_
          refine sp_aload_n 35 rfl rfl rfl ?_
          refine hq_getR 38 rfl rfl rfl rfl ?_
          refine sp_iload 40 rfl rfl rfl ?_
          have n1_ := k.1
          have k := k.2
          refine hq_iald 41 rfl rfl n1_ rfl ?_
          refine sp_aload_n 42 rfl rfl rfl ?_
          refine sp_iload 44 rfl rfl rfl ?_
          refine sc_V 47 rfl rfl rfl rfl rfl (Nat.le_refl _) (Nat.le_refl _) rfl ?_
          refine mm_s_mono _ _ _ _ _ _ ?_ k
          rintro r_ h_ ⟨x1, I1, J1, rfl, rfl, k⟩
          refine hs_S (st2 := [.int x1, .int (I 32 ((v5).toNatClampNeg))]) rfl ?_
          refine sp_ic_le 50 rfl rfl (fun q_ => ?_) (fun q_ => ?_)
          · have k := k.1 q_
            refine hs_iinc 57 (L2 := [some (.ref 31), some (.int v1), some (.long v2), none, some (.int v4), some (.int (v5 + Int32.ofInt 1))]) rfl rfl rfl rfl rfl ?_
            refine sp_goto rfl ?_
            exact k
          · have k := k.2 q_
            refine sp_iload 52 rfl rfl rfl ?_
            refine hs_istore 54 (L2 := [some (.ref 31), some (.int v1), some (.long v2), none, some (.int v5), some (.int v5)]) rfl rfl rfl rfl ?_
            refine hs_iinc 57 (L2 := [some (.ref 31), some (.int v1), some (.long v2), none, some (.int v5), some (.int (v5 + Int32.ofInt 1))]) rfl rfl rfl rfl rfl ?_
            refine sp_goto rfl ?_
            exact k
theorem sg_X2_partOf {SL : Nat} {xs : Nat → Int32} {d : Nat} {p s q : Nat} {Q : Option Value → mm_H → Prop} {a0 : Int32} {a1 : Int32} {a2 : Int32} {I : Nat → Nat → Int32} {J : Nat → Nat → Int64}  (k : (mm_s SL xs (d + 1) 46 [.long ((a0).toInt64), .long ((a1).toInt64)] (hp p s q I J) (fun r_ h_ => ∃ x1 I1 J1, r_ = some (.long x1) ∧ h_ = hp p s q I1 J1 ∧ (((Int32.ofInt 1) ≤ ((x1).toInt32) → ((a2 = Int32.ofInt 0 → (¬ ((x1).toInt32) = 0 ∧ Q (some (.int (a0 / ((x1).toInt32)))) (hp p s q I1 J1))) ∧ (¬ (a2 = Int32.ofInt 0) → (¬ ((x1).toInt32) = 0 ∧ Q (some (.int (a1 / ((x1).toInt32)))) (hp p s q I1 J1))))) ∧ (¬ ((Int32.ofInt 1) ≤ ((x1).toInt32)) → Q (some (.int (Int32.ofInt (-1)))) (hp p s q I1 J1)))))) : mm_s SL xs (d + 2) 32 [.int a0, .int a1, .int a2] (hp p s q I J) Q := by
  refine e_X2_partOf rfl ?_
  refine hs_L (L2 := [some (.int a0), some (.int a1), some (.int a2), none]) rfl ?_
  refine sp_iload_n 1 rfl rfl rfl ?_
  refine sp_i2l 2 rfl rfl ?_
  refine sp_iload_n 3 rfl rfl rfl ?_
  refine sp_i2l 4 rfl rfl ?_
  refine sc_S 7 rfl rfl rfl rfl (Nat.le_refl _) (Nat.le_refl _) rfl ?_
  refine mm_s_mono _ _ _ _ _ _ ?_ k
  rintro r_ h_ ⟨x1, I1, J1, rfl, rfl, k⟩
  refine hs_S (st2 := [.long x1]) rfl ?_
  refine sp_l2i 8 rfl rfl ?_
  refine hs_istore_n 9 (L2 := [some (.int a0), some (.int a1), some (.int a2), some (.int ((x1).toInt32))]) rfl rfl rfl rfl ?_
  refine sp_iload_n 10 rfl rfl rfl ?_
  refine sp_iconst 11 rfl rfl ?_
  refine sp_ic_ge 14 rfl rfl (fun q_ => ?_) (fun q_ => ?_)
  · have k := k.1 q_
    refine sp_iload_n 17 rfl rfl rfl ?_
    refine sp_if_ne 20 rfl rfl (fun q_ => ?_) (fun q_ => ?_)
    · have k := k.2 q_
      refine sp_iload_n 25 rfl rfl rfl ?_
      refine sp_iload_n 26 rfl rfl rfl ?_
      have n1_ := k.1
      have k := k.2
      refine sp_idiv 27 rfl n1_ rfl ?_
      exact st_iret rfl rfl (Nat.le_refl _) (Nat.le_refl _) k
    · have k := k.1 q_
      refine sp_iload_n 21 rfl rfl rfl ?_
      refine sp_goto rfl ?_
      refine sp_iload_n 26 rfl rfl rfl ?_
      have n2_ := k.1
      have k := k.2
      refine sp_idiv 27 rfl n2_ rfl ?_
      exact st_iret rfl rfl (Nat.le_refl _) (Nat.le_refl _) k
  · have k := k.2 q_
    refine sp_iconst 15 rfl rfl ?_
    exact st_iret rfl rfl (Nat.le_refl _) (Nat.le_refl _) k
theorem sg_X3_leastCommon {SL : Nat} {xs : Nat → Int32} {d : Nat} {p s q : Nat} {Q : Option Value → mm_H → Prop} {a0 : Int64} {a1 : Int32} {I : Nat → Nat → Int32} {J : Nat → Nat → Int64}  (k : (mm_s SL xs (d + 1) 46 [.long a0, .long ((a1).toInt64)] (hp p s q I J) (fun r_ h_ => ∃ x1 I1 J1, r_ = some (.long x1) ∧ h_ = hp p s q I1 J1 ∧ (((Int64.ofInt 1) ≤ x1 → (¬ x1 = 0 ∧ Q (some (.long ((a0 / x1) * ((a1).toInt64)))) (hp p s q I1 J1))) ∧ (¬ ((Int64.ofInt 1) ≤ x1) → Q (some (.long a0)) (hp p s q I1 J1)))))) : mm_s SL xs (d + 2) 37 [.long a0, .int a1] (hp p s q I J) Q := by
  refine e_X3_leastCommon rfl ?_
  refine hs_L (L2 := [some (.long a0), none, some (.int a1), none, none]) rfl ?_
  refine sp_lload_n 1 rfl rfl rfl ?_
  refine sp_iload_n 2 rfl rfl rfl ?_
  refine sp_i2l 3 rfl rfl ?_
  refine sc_S 6 rfl rfl rfl rfl (Nat.le_refl _) (Nat.le_refl _) rfl ?_
  refine mm_s_mono _ _ _ _ _ _ ?_ k
  rintro r_ h_ ⟨x1, I1, J1, rfl, rfl, k⟩
  refine hs_S (st2 := [.long x1]) rfl ?_
  refine hs_lstore_n 7 (L2 := [some (.long a0), none, some (.int a1), some (.long x1), none]) rfl rfl rfl rfl ?_
  refine sp_lload_n 8 rfl rfl rfl ?_
  refine sp_lconst 9 rfl rfl ?_
  refine sp_J (y := Int64.ofInt 1) rfl ?_
  refine sp_lcmp 10 rfl rfl ?_
  refine sp_if_ge 13 rfl rfl (fun q_ => ?_) (fun q_ => ?_)
  · have k := k.1 ((lg_cmp_ge _ _).mp q_)
    refine sp_lload_n 18 rfl rfl rfl ?_
    refine sp_lload_n 19 rfl rfl rfl ?_
    have n1_ := k.1
    have k := k.2
    refine sp_ldiv 20 rfl n1_ rfl ?_
    refine sp_iload_n 21 rfl rfl rfl ?_
    refine sp_i2l 22 rfl rfl ?_
    refine sp_lmul 23 rfl rfl ?_
    exact st_lret rfl rfl (Nat.le_refl _) (Nat.le_refl _) k
  · have k := k.2 (fun z_ => q_ ((lg_cmp_ge _ _).mpr z_))
    refine sp_lload_n 14 rfl rfl rfl ?_
    refine sp_goto rfl ?_
    exact st_lret rfl rfl (Nat.le_refl _) (Nat.le_refl _) k
def w_X4_neverLast_8 (SL : Nat) (xs : Nat → Int32) (d : Nat) (p s q : Nat) (Q : Option Value → mm_H → Prop) (v0 : Int32) (v1 : Int32) (v2 : Int64) (v4 : Int32) (I : Nat → Nat → Int32) (J : Nat → Nat → Int64) : Prop := mm_w SL xs (mm_s SL xs (d + 1)) mm_am kX4_neverLast 0 0 (some .long) Q 8 [some (.int v0), some (.int v1), some (.long v2), none, some (.int v4)] [] (hp p s q I J) 0 0
theorem sg_X4_neverLast {SL : Nat} {xs : Nat → Int32} {d : Nat} {p s q : Nat} {Q : Option Value → mm_H → Prop} {a0 : Int32} {a1 : Int32} {I : Nat → Nat → Int32} {J : Nat → Nat → Int64}  (k : w_X4_neverLast_8 SL xs d p s q Q a0 a1 (sx_X6_all a0) (Int32.ofInt 1) I J) : mm_s SL xs (d + 2) 47 [.int a0, .int a1] (hp p s q I J) Q := by
  refine e_X4_neverLast rfl ?_
  refine hs_L (L2 := [some (.int a0), some (.int a1), none, none, none]) rfl ?_
  refine sp_iload_n 1 rfl rfl rfl ?_
  refine sc_S 4 rfl rfl rfl rfl (Nat.le_refl _) (Nat.le_refl _) rfl ?_
  refine cx_X6_all ?_
  refine hs_S (st2 := [.long (sx_X6_all a0)]) rfl ?_
  refine hs_lstore_n 5 (L2 := [some (.int a0), some (.int a1), some (.long (sx_X6_all a0)), none, none]) rfl rfl rfl rfl ?_
  refine sp_iconst 6 rfl rfl ?_
  refine hs_istore 8 (L2 := [some (.int a0), some (.int a1), some (.long (sx_X6_all a0)), none, some (.int (Int32.ofInt 1))]) rfl rfl rfl rfl ?_
  exact k
theorem sg_X4_neverLast_8 {SL : Nat} {xs : Nat → Int32} {d : Nat} {p s q : Nat} {Q : Option Value → mm_H → Prop} {v0 : Int32} {v1 : Int32} {v2 : Int64} {v4 : Int32} {I : Nat → Nat → Int32} {J : Nat → Nat → Int64}  (k : ((v1 < v4 → Q (some (.long v2)) (hp p s q I J)) ∧ (¬ (v1 < v4) → ((v2 = (Int64.ofInt 0) → Q (some (.long v2)) (hp p s q I J)) ∧ (¬ (v2 = (Int64.ofInt 0)) → (mm_s SL xs (d + 1) 40 [.int v0, .int v4, .int v0] (hp p s q I J) (fun r_ h_ => ∃ x1 I1 J1, r_ = some (.int x1) ∧ h_ = hp p s q I1 J1 ∧ w_X4_neverLast_8 SL xs d p s q Q v0 v1 (v2 &&& ((sx_X6_bit x1) ^^^ (Int64.ofInt (-1)))) (v4 + Int32.ofInt 1) I1 J1))))))) : w_X4_neverLast_8 SL xs d p s q Q v0 v1 v2 v4 I J := by
  unfold w_X4_neverLast_8
  refine sp_iload 10 rfl rfl rfl ?_
  refine sp_iload_n 11 rfl rfl rfl ?_
  refine sp_ic_gt 14 rfl rfl (fun q_ => ?_) (fun q_ => ?_)
  · have k := k.1 q_
    refine sp_lload_n 44 rfl rfl rfl ?_
    exact st_lret rfl rfl (Nat.le_refl _) (Nat.le_refl _) k
  · have k := k.2 q_
    refine sp_lload_n 15 rfl rfl rfl ?_
    refine sp_lconst 16 rfl rfl ?_
    refine sp_J (y := Int64.ofInt 0) rfl ?_
    refine sp_lcmp 17 rfl rfl ?_
    refine sp_if_eq 20 rfl rfl (fun q_ => ?_) (fun q_ => ?_)
    · have k := k.1 ((lg_cmp_eq _ _).mp q_)
      refine sp_lload_n 44 rfl rfl rfl ?_
      exact st_lret rfl rfl (Nat.le_refl _) (Nat.le_refl _) k
    · have k := k.2 (fun z_ => q_ ((lg_cmp_eq _ _).mpr z_))
      refine sp_lload_n 21 rfl rfl rfl ?_
      refine sp_iload_n 22 rfl rfl rfl ?_
      refine sp_iload 24 rfl rfl rfl ?_
      refine sp_iload_n 25 rfl rfl rfl ?_
      refine sc_S 28 rfl rfl rfl rfl (Nat.le_refl _) (Nat.le_refl _) rfl ?_
      refine mm_s_mono _ _ _ _ _ _ ?_ k
      rintro r_ h_ ⟨x1, I1, J1, rfl, rfl, k⟩
      refine hs_S (st2 := [.int x1, .long v2]) rfl ?_
      refine sc_S 31 rfl rfl rfl rfl (Nat.le_refl _) (Nat.le_refl _) rfl ?_
      refine cx_X6_bit ?_
      refine hs_S (st2 := [.long (sx_X6_bit x1), .long v2]) rfl ?_
      refine sp_ldc2 34 rfl rfl ?_
      refine sp_lxor 35 rfl rfl ?_
      refine sp_land 36 rfl rfl ?_
      refine hs_lstore_n 37 (L2 := [some (.int v0), some (.int v1), some (.long (v2 &&& ((sx_X6_bit x1) ^^^ (Int64.ofInt (-1))))), none, some (.int v4)]) rfl rfl rfl rfl ?_
      refine hs_iinc 40 (L2 := [some (.int v0), some (.int v1), some (.long (v2 &&& ((sx_X6_bit x1) ^^^ (Int64.ofInt (-1))))), none, some (.int (v4 + Int32.ofInt 1))]) rfl rfl rfl rfl rfl ?_
      refine sp_goto rfl ?_
      exact k
