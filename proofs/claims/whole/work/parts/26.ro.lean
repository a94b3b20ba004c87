def sy_X5_valueOf (o : Nat) (a0 : Int32) (a1 : Int32) (a2 : Int32) (a3 : Int32) (I : Nat → Nat → Int32) (J : Nat → Nat → Int64) : Int32 := (if (-a0) = Int32.ofInt 145 then a1 else (if (-a0) = Int32.ofInt 146 then a2 else (if (-a0) = Int32.ofInt 147 then a3 else (if (-a0) = Int32.ofInt 148 then (I o 7) else (if (-a0) = Int32.ofInt 149 then (I o 8) else a0)))))
theorem sg_X5_valueOf {SL : Nat} {xs : Nat → Int32} {d : Nat} {p s q : Nat} {Q : Option Value → mm_H → Prop} {o : Nat} {a0 : Int32} {a1 : Int32} {a2 : Int32} {a3 : Int32} {I : Nat → Nat → Int32} {J : Nat → Nat → Int64} (h_o : isP o) (k : (((-a0) = Int32.ofInt 145 → Q (some (.int a1)) (hp p s q I J)) ∧ ((-a0) = Int32.ofInt 146 → Q (some (.int a2)) (hp p s q I J)) ∧ ((-a0) = Int32.ofInt 147 → Q (some (.int a3)) (hp p s q I J)) ∧ ((-a0) = Int32.ofInt 148 → Q (some (.int (I o 7))) (hp p s q I J)) ∧ ((-a0) = Int32.ofInt 149 → Q (some (.int (I o 8))) (hp p s q I J)) ∧ (¬ (-a0) = Int32.ofInt 145 → ¬ (-a0) = Int32.ofInt 146 → ¬ (-a0) = Int32.ofInt 147 → ¬ (-a0) = Int32.ofInt 148 → ¬ (-a0) = Int32.ofInt 149 → Q (some (.int a0)) (hp p s q I J)))) : mm_s SL xs (d + 1) 62 [.ref o, .int a0, .int a1, .int a2, .int a3] (hp p s q I J) Q := by
  refine e_X5_valueOf rfl ?_
  refine hs_L (L2 := [some (.ref o), some (.int a0), some (.int a1), some (.int a2), some (.int a3)]) rfl ?_
  refine sp_iload_n 1 rfl rfl rfl ?_
  refine sp_ineg 2 rfl rfl ?_
  by_cases q2_0 : (-a0) = Int32.ofInt 145
  · have k := k.1 q2_0
    refine sp_table (t := 36) rfl (by rw [q2_0]; rfl) ?_
    refine sp_iload_n 37 rfl rfl rfl ?_
    exact st_iret rfl rfl (Nat.le_refl _) (Nat.le_refl _) k
  · skip
    by_cases q2_1 : (-a0) = Int32.ofInt 146
    · have k := k.2.1 q2_1
      refine sp_table (t := 38) rfl (by rw [q2_1]; rfl) ?_
      refine sp_iload_n 39 rfl rfl rfl ?_
      exact st_iret rfl rfl (Nat.le_refl _) (Nat.le_refl _) k
    · skip
      by_cases q2_2 : (-a0) = Int32.ofInt 147
      · have k := k.2.2.1 q2_2
        refine sp_table (t := 40) rfl (by rw [q2_2]; rfl) ?_
        refine sp_iload 42 rfl rfl rfl ?_
        exact st_iret rfl rfl (Nat.le_refl _) (Nat.le_refl _) k
      · skip
        by_cases q2_3 : (-a0) = Int32.ofInt 148
        · have k := k.2.2.2.1 q2_3
          refine sp_table (t := 43) rfl (by rw [q2_3]; rfl) ?_
          refine sp_aload_n 44 rfl rfl rfl ?_
          refine hq_getI 47 rfl (kP0 h_o) rfl ?_
          exact st_iret rfl rfl (Nat.le_refl _) (Nat.le_refl _) k
        · skip
          by_cases q2_4 : (-a0) = Int32.ofInt 149
          · have k := k.2.2.2.2.1 q2_4
            refine sp_table (t := 48) rfl (by rw [q2_4]; rfl) ?_
            refine sp_aload_n 49 rfl rfl rfl ?_
            refine hq_getI 52 rfl (kP0 h_o) rfl ?_
            exact st_iret rfl rfl (Nat.le_refl _) (Nat.le_refl _) k
          · skip
            have k := k.2.2.2.2.2 q2_0 q2_1 q2_2 q2_3 q2_4
            refine sp_table (t := 53) rfl (by unfold mm_tab; rw [if_pos (by have := tb_ne q2_0; have := tb_ne q2_1; have := tb_ne q2_2; have := tb_ne q2_3; have := tb_ne q2_4; omega)]; rfl) ?_
            refine sp_iload_n 54 rfl rfl rfl ?_
            exact st_iret rfl rfl (Nat.le_refl _) (Nat.le_refl _) k
theorem cy_X5_valueOf {SL : Nat} {xs : Nat → Int32} {d : Nat} {p s q : Nat} {Q : Option Value → mm_H → Prop} {o : Nat} {a0 : Int32} {a1 : Int32} {a2 : Int32} {a3 : Int32} {I : Nat → Nat → Int32} {J : Nat → Nat → Int64} (h_o : isP o) (k : Q (some (.int (sy_X5_valueOf o a0 a1 a2 a3 I J))) (hp p s q I J)) : mm_s SL xs (d + 1) 62 [.ref o, .int a0, .int a1, .int a2, .int a3] (hp p s q I J) Q := by
  unfold sy_X5_valueOf at k
  refine sg_X5_valueOf h_o ?_
  refine ⟨fun q => ?_, fun q => ?_, fun q => ?_, fun q => ?_, fun q => ?_, fun q0 q1 q2 q3 q4 => ?_⟩
  · rw [ if_pos q] at k
    exact k
  · rw [if_neg (by rw [q]; decide),  if_pos q] at k
    exact k
  · rw [if_neg (by rw [q]; decide), if_neg (by rw [q]; decide),  if_pos q] at k
    exact k
  · rw [if_neg (by rw [q]; decide), if_neg (by rw [q]; decide), if_neg (by rw [q]; decide),  if_pos q] at k
    exact k
  · rw [if_neg (by rw [q]; decide), if_neg (by rw [q]; decide), if_neg (by rw [q]; decide), if_neg (by rw [q]; decide),  if_pos q] at k
    exact k
  · rw [if_neg q0, if_neg q1, if_neg q2, if_neg q3, if_neg q4] at k
    exact k
def sy_X9_isSign (a0 : Int32) (I : Nat → Nat → Int32) (J : Nat → Nat → Int64) : Int32 := (if a0 = Int32.ofInt 40 then (Int32.ofInt 1) else (if a0 = Int32.ofInt 41 then (Int32.ofInt 1) else (if a0 = Int32.ofInt 42 then (Int32.ofInt 1) else (if a0 = Int32.ofInt 43 then (Int32.ofInt 1) else (if a0 = Int32.ofInt 45 then (Int32.ofInt 1) else (if a0 = Int32.ofInt 47 then (Int32.ofInt 1) else (if a0 = Int32.ofInt 59 then (Int32.ofInt 1) else (if a0 = Int32.ofInt 60 then (Int32.ofInt 1) else (if a0 = Int32.ofInt 61 then (Int32.ofInt 1) else (if a0 = Int32.ofInt 62 then (Int32.ofInt 1) else (Int32.ofInt 0)))))))))))
theorem bz_X9_isSign {a0 : Int32} {I : Nat → Nat → Int32} {J : Nat → Nat → Int64} : sy_X9_isSign a0 I J = 0 ∨ sy_X9_isSign a0 I J = 1 := by
  unfold sy_X9_isSign
  repeat (first | exact Or.inl rfl | exact Or.inr rfl | exact bz_any | split)
theorem sg_X9_isSign {SL : Nat} {xs : Nat → Int32} {d : Nat} {p s q : Nat} {Q : Option Value → mm_H → Prop} {a0 : Int32} {I : Nat → Nat → Int32} {J : Nat → Nat → Int64}  (k : ((a0 = Int32.ofInt 40 → Q (some (.int (Int32.ofInt 1))) (hp p s q I J)) ∧ (a0 = Int32.ofInt 41 → Q (some (.int (Int32.ofInt 1))) (hp p s q I J)) ∧ (a0 = Int32.ofInt 42 → Q (some (.int (Int32.ofInt 1))) (hp p s q I J)) ∧ (a0 = Int32.ofInt 43 → Q (some (.int (Int32.ofInt 1))) (hp p s q I J)) ∧ (a0 = Int32.ofInt 45 → Q (some (.int (Int32.ofInt 1))) (hp p s q I J)) ∧ (a0 = Int32.ofInt 47 → Q (some (.int (Int32.ofInt 1))) (hp p s q I J)) ∧ (a0 = Int32.ofInt 59 → Q (some (.int (Int32.ofInt 1))) (hp p s q I J)) ∧ (a0 = Int32.ofInt 60 → Q (some (.int (Int32.ofInt 1))) (hp p s q I J)) ∧ (a0 = Int32.ofInt 61 → Q (some (.int (Int32.ofInt 1))) (hp p s q I J)) ∧ (a0 = Int32.ofInt 62 → Q (some (.int (Int32.ofInt 1))) (hp p s q I J)) ∧ (¬ a0 = Int32.ofInt 40 → ¬ a0 = Int32.ofInt 41 → ¬ a0 = Int32.ofInt 42 → ¬ a0 = Int32.ofInt 43 → ¬ a0 = Int32.ofInt 45 → ¬ a0 = Int32.ofInt 47 → ¬ a0 = Int32.ofInt 59 → ¬ a0 = Int32.ofInt 60 → ¬ a0 = Int32.ofInt 61 → ¬ a0 = Int32.ofInt 62 → Q (some (.int (Int32.ofInt 0))) (hp p s q I J)))) : mm_s SL xs (d + 1) 114 [.int a0] (hp p s q I J) Q := by
  refine e_X9_isSign rfl ?_
  refine hs_L (L2 := [some (.int a0)]) rfl ?_
  refine sp_iload_n 1 rfl rfl rfl ?_
  by_cases q1_0 : a0 = Int32.ofInt 40
  · have k := k.1 q1_0
    refine sp_table (t := 108) rfl (by rw [q1_0]; rfl) ?_
    refine sp_iconst 109 rfl rfl ?_
    exact st_zret rfl rfl (by decide) (Nat.le_refl _) (Nat.le_refl _) k
  · skip
    by_cases q1_1 : a0 = Int32.ofInt 41
    · have k := k.2.1 q1_1
      refine sp_table (t := 108) rfl (by rw [q1_1]; rfl) ?_
      refine sp_iconst 109 rfl rfl ?_
      exact st_zret rfl rfl (by decide) (Nat.le_refl _) (Nat.le_refl _) k
    · skip
      by_cases q1_2 : a0 = Int32.ofInt 42
      · have k := k.2.2.1 q1_2
        refine sp_table (t := 108) rfl (by rw [q1_2]; rfl) ?_
        refine sp_iconst 109 rfl rfl ?_
        exact st_zret rfl rfl (by decide) (Nat.le_refl _) (Nat.le_refl _) k
      · skip
        by_cases q1_3 : a0 = Int32.ofInt 43
        · have k := k.2.2.2.1 q1_3
          refine sp_table (t := 108) rfl (by rw [q1_3]; rfl) ?_
          refine sp_iconst 109 rfl rfl ?_
          exact st_zret rfl rfl (by decide) (Nat.le_refl _) (Nat.le_refl _) k
        · skip
          by_cases q1_4 : a0 = Int32.ofInt 45
          · have k := k.2.2.2.2.1 q1_4
            refine sp_table (t := 108) rfl (by rw [q1_4]; rfl) ?_
            refine sp_iconst 109 rfl rfl ?_
            exact st_zret rfl rfl (by decide) (Nat.le_refl _) (Nat.le_refl _) k
          · skip
            by_cases q1_5 : a0 = Int32.ofInt 47
            · have k := k.2.2.2.2.2.1 q1_5
              refine sp_table (t := 108) rfl (by rw [q1_5]; rfl) ?_
              refine sp_iconst 109 rfl rfl ?_
              exact st_zret rfl rfl (by decide) (Nat.le_refl _) (Nat.le_refl _) k
            · skip
              by_cases q1_6 : a0 = Int32.ofInt 59
              · have k := k.2.2.2.2.2.2.1 q1_6
                refine sp_table (t := 108) rfl (by rw [q1_6]; rfl) ?_
                refine sp_iconst 109 rfl rfl ?_
                exact st_zret rfl rfl (by decide) (Nat.le_refl _) (Nat.le_refl _) k
              · skip
                by_cases q1_7 : a0 = Int32.ofInt 60
                · have k := k.2.2.2.2.2.2.2.1 q1_7
                  refine sp_table (t := 108) rfl (by rw [q1_7]; rfl) ?_
                  refine sp_iconst 109 rfl rfl ?_
                  exact st_zret rfl rfl (by decide) (Nat.le_refl _) (Nat.le_refl _) k
                · skip
                  by_cases q1_8 : a0 = Int32.ofInt 61
                  · have k := k.2.2.2.2.2.2.2.2.1 q1_8
                    refine sp_table (t := 108) rfl (by rw [q1_8]; rfl) ?_
                    refine sp_iconst 109 rfl rfl ?_
                    exact st_zret rfl rfl (by decide) (Nat.le_refl _) (Nat.le_refl _) k
                  · skip
                    by_cases q1_9 : a0 = Int32.ofInt 62
                    · have k := k.2.2.2.2.2.2.2.2.2.1 q1_9
                      refine sp_table (t := 108) rfl (by rw [q1_9]; rfl) ?_
                      refine sp_iconst 109 rfl rfl ?_
                      exact st_zret rfl rfl (by decide) (Nat.le_refl _) (Nat.le_refl _) k
                    · skip
                      have k := k.2.2.2.2.2.2.2.2.2.2 q1_0 q1_1 q1_2 q1_3 q1_4 q1_5 q1_6 q1_7 q1_8 q1_9
                      refine sp_table (t := 110) rfl ?_ ?_
                      · unfold mm_tab
                        rcases Classical.em (a0.toInt < 40 ∨ 62 < a0.toInt) with z | z
                        · rw [if_pos z]; rfl
                        · rw [if_neg z]
                          have : a0.toInt = 44 ∨ a0.toInt = 46 ∨ a0.toInt = 48 ∨ a0.toInt = 49 ∨ a0.toInt = 50 ∨ a0.toInt = 51 ∨ a0.toInt = 52 ∨ a0.toInt = 53 ∨ a0.toInt = 54 ∨ a0.toInt = 55 ∨ a0.toInt = 56 ∨ a0.toInt = 57 ∨ a0.toInt = 58 := by
                            have := tb_ne q1_0; have := tb_ne q1_1; have := tb_ne q1_2; have := tb_ne q1_3; have := tb_ne q1_4; have := tb_ne q1_5; have := tb_ne q1_6; have := tb_ne q1_7; have := tb_ne q1_8; have := tb_ne q1_9
                            omega
                          rcases this with e_ | e_ | e_ | e_ | e_ | e_ | e_ | e_ | e_ | e_ | e_ | e_ | e_ <;> (rw [e_]; rfl)
                      · skip
                        refine sp_iconst 111 rfl rfl ?_
                        exact st_zret rfl rfl (by decide) (Nat.le_refl _) (Nat.le_refl _) k
theorem cy_X9_isSign {SL : Nat} {xs : Nat → Int32} {d : Nat} {p s q : Nat} {Q : Option Value → mm_H → Prop} {a0 : Int32} {I : Nat → Nat → Int32} {J : Nat → Nat → Int64}  (k : Q (some (.int (sy_X9_isSign a0 I J))) (hp p s q I J)) : mm_s SL xs (d + 1) 114 [.int a0] (hp p s q I J) Q := by
  unfold sy_X9_isSign at k
  refine sg_X9_isSign  ?_
  refine ⟨fun q => ?_, fun q => ?_, fun q => ?_, fun q => ?_, fun q => ?_, fun q => ?_, fun q => ?_, fun q => ?_, fun q => ?_, fun q => ?_, fun q0 q1 q2 q3 q4 q5 q6 q7 q8 q9 => ?_⟩
  · rw [ if_pos q] at k
    exact k
  · rw [if_neg (by rw [q]; decide),  if_pos q] at k
    exact k
  · rw [if_neg (by rw [q]; decide), if_neg (by rw [q]; decide),  if_pos q] at k
    exact k
  · rw [if_neg (by rw [q]; decide), if_neg (by rw [q]; decide), if_neg (by rw [q]; decide),  if_pos q] at k
    exact k
  · rw [if_neg (by rw [q]; decide), if_neg (by rw [q]; decide), if_neg (by rw [q]; decide), if_neg (by rw [q]; decide),  if_pos q] at k
    exact k
  · rw [if_neg (by rw [q]; decide), if_neg (by rw [q]; decide), if_neg (by rw [q]; decide), if_neg (by rw [q]; decide), if_neg (by rw [q]; decide),  if_pos q] at k
    exact k
  · rw [if_neg (by rw [q]; decide), if_neg (by rw [q]; decide), if_neg (by rw [q]; decide), if_neg (by rw [q]; decide), if_neg (by rw [q]; decide), if_neg (by rw [q]; decide),  if_pos q] at k
    exact k
  · rw [if_neg (by rw [q]; decide), if_neg (by rw [q]; decide), if_neg (by rw [q]; decide), if_neg (by rw [q]; decide), if_neg (by rw [q]; decide), if_neg (by rw [q]; decide), if_neg (by rw [q]; decide),  if_pos q] at k
    exact k
  · rw [if_neg (by rw [q]; decide), if_neg (by rw [q]; decide), if_neg (by rw [q]; decide), if_neg (by rw [q]; decide), if_neg (by rw [q]; decide), if_neg (by rw [q]; decide), if_neg (by rw [q]; decide), if_neg (by rw [q]; decide),  if_pos q] at k
    exact k
  · rw [if_neg (by rw [q]; decide), if_neg (by rw [q]; decide), if_neg (by rw [q]; decide), if_neg (by rw [q]; decide), if_neg (by rw [q]; decide), if_neg (by rw [q]; decide), if_neg (by rw [q]; decide), if_neg (by rw [q]; decide), if_neg (by rw [q]; decide),  if_pos q] at k
    exact k
  · rw [if_neg q0, if_neg q1, if_neg q2, if_neg q3, if_neg q4, if_neg q5, if_neg q6, if_neg q7, if_neg q8, if_neg q9] at k
    exact k
def sy_X10_fault (a0 : Int32) (I : Nat → Nat → Int32) (J : Nat → Nat → Int64) : Int32 := (if a0 = Int32.ofInt 0 then (I 3 1) else (if a0 = Int32.ofInt 1 then (I 3 2) else (Int32.ofInt (-1))))
theorem sg_X10_fault {SL : Nat} {xs : Nat → Int32} {d : Nat} {p s q : Nat} {Q : Option Value → mm_H → Prop} {a0 : Int32} {I : Nat → Nat → Int32} {J : Nat → Nat → Int64}  (k : ((a0 = Int32.ofInt 0 → Q (some (.int (I 3 1))) (hp p s q I J)) ∧ (a0 = Int32.ofInt 1 → Q (some (.int (I 3 2))) (hp p s q I J)) ∧ (¬ a0 = Int32.ofInt 0 → ¬ a0 = Int32.ofInt 1 → Q (some (.int (Int32.ofInt (-1)))) (hp p s q I J)))) : mm_s SL xs (d + 1) 119 [.ref 2, .int a0] (hp p s q I J) Q := by
  refine e_X10_fault rfl ?_
  refine hs_L (L2 := [some (.ref 2), some (.int a0)]) rfl ?_
  refine sp_iload_n 1 rfl rfl rfl ?_
  by_cases q1_0 : a0 = Int32.ofInt 0
  · have k := k.1 q1_0
    refine sp_lookup (t := 28) rfl (by rw [q1_0]; rfl) ?_
    refine sp_aload_n 29 rfl rfl rfl ?_
    refine hq_getR 32 rfl rfl rfl rfl ?_
    refine hq_getI 35 rfl rfl rfl ?_
    exact st_iret rfl rfl (Nat.le_refl _) (Nat.le_refl _) k
  · skip
    by_cases q1_1 : a0 = Int32.ofInt 1
    · have k := k.2.1 q1_1
      refine sp_lookup (t := 36) rfl (by rw [q1_1]; rfl) ?_
      refine sp_aload_n 37 rfl rfl rfl ?_
      refine hq_getR 40 rfl rfl rfl rfl ?_
      refine hq_getI 43 rfl rfl rfl ?_
      exact st_iret rfl rfl (Nat.le_refl _) (Nat.le_refl _) k
    · skip
      have k := k.2.2 q1_0 q1_1
      refine sp_lookup (t := 44) rfl (by simp only [Op.lookupswitch.offset, Array.toList, List.find?]; rw [if_neg (fun e_ => tb_ne q1_0 e_.symm), if_neg (fun e_ => tb_ne q1_1 e_.symm)]; rfl) ?_
      refine sp_iconst 45 rfl rfl ?_
      exact st_iret rfl rfl (Nat.le_refl _) (Nat.le_refl _) k
theorem cy_X10_fault {SL : Nat} {xs : Nat → Int32} {d : Nat} {p s q : Nat} {Q : Option Value → mm_H → Prop} {a0 : Int32} {I : Nat → Nat → Int32} {J : Nat → Nat → Int64}  (k : Q (some (.int (sy_X10_fault a0 I J))) (hp p s q I J)) : mm_s SL xs (d + 1) 119 [.ref 2, .int a0] (hp p s q I J) Q := by
  unfold sy_X10_fault at k
  refine sg_X10_fault  ?_
  refine ⟨fun q => ?_, fun q => ?_, fun q0 q1 => ?_⟩
  · rw [ if_pos q] at k
    exact k
  · rw [if_neg (by rw [q]; decide),  if_pos q] at k
    exact k
  · rw [if_neg q0, if_neg q1] at k
    exact k
def sy_X11_isWord (a0 : Int64) (I : Nat → Nat → Int32) (J : Nat → Nat → Int64) : Int32 := (if (I 65 6) = (Int32.ofInt 1) then (if (J 65 9) = a0 then (Int32.ofInt 1) else (Int32.ofInt 0)) else (Int32.ofInt 0))
theorem bz_X11_isWord {a0 : Int64} {I : Nat → Nat → Int32} {J : Nat → Nat → Int64} : sy_X11_isWord a0 I J = 0 ∨ sy_X11_isWord a0 I J = 1 := by
  unfold sy_X11_isWord
  repeat (first | exact Or.inl rfl | exact Or.inr rfl | exact bz_any | split)
theorem sg_X11_isWord {SL : Nat} {xs : Nat → Int32} {d : Nat} {p s q : Nat} {Q : Option Value → mm_H → Prop} {a0 : Int64} {I : Nat → Nat → Int32} {J : Nat → Nat → Int64}  (k : (((I 65 6) = (Int32.ofInt 1) → (((J 65 9) = a0 → Q (some (.int (Int32.ofInt 1))) (hp p s q I J)) ∧ (¬ ((J 65 9) = a0) → Q (some (.int (Int32.ofInt 0))) (hp p s q I J)))) ∧ (¬ ((I 65 6) = (Int32.ofInt 1)) → Q (some (.int (Int32.ofInt 0))) (hp p s q I J)))) : mm_s SL xs (d + 1) 174 [.ref 65, .long a0] (hp p s q I J) Q := by
  refine e_X11_isWord rfl ?_
  refine hs_L (L2 := [some (.ref 65), some (.long a0), none]) rfl ?_
  refine sp_aload_n 1 rfl rfl rfl ?_
  refine hq_getI 4 rfl rfl rfl ?_
  refine sp_iconst 5 rfl rfl ?_
  refine sp_ic_ne 8 rfl rfl (fun q_ => ?_) (fun q_ => ?_)
  · have k := k.2 q_
    refine sp_iconst 22 rfl rfl ?_
    exact st_zret rfl rfl (by decide) (Nat.le_refl _) (Nat.le_refl _) k
  · have k := k.1 q_
    refine sp_aload_n 9 rfl rfl rfl ?_
    refine hq_getJ 12 rfl rfl rfl ?_
    refine sp_lload_n 13 rfl rfl rfl ?_
    refine sp_lcmp 14 rfl rfl ?_
    refine sp_if_ne 17 rfl rfl (fun q_ => ?_) (fun q_ => ?_)
    · have k := k.2 (fun z_ => q_ ((lg_cmp_eq _ _).mpr z_))
      refine sp_iconst 22 rfl rfl ?_
      exact st_zret rfl rfl (by decide) (Nat.le_refl _) (Nat.le_refl _) k
    · have k := k.1 ((lg_cmp_eq _ _).mp q_)
      refine sp_iconst 18 rfl rfl ?_
      refine sp_goto rfl ?_
      exact st_zret rfl rfl (by decide) (Nat.le_refl _) (Nat.le_refl _) k
theorem cy_X11_isWord {SL : Nat} {xs : Nat → Int32} {d : Nat} {p s q : Nat} {Q : Option Value → mm_H → Prop} {a0 : Int64} {I : Nat → Nat → Int32} {J : Nat → Nat → Int64}  (k : Q (some (.int (sy_X11_isWord a0 I J))) (hp p s q I J)) : mm_s SL xs (d + 1) 174 [.ref 65, .long a0] (hp p s q I J) Q := by
  unfold sy_X11_isWord at k
  refine sg_X11_isWord  ?_
  refine ⟨fun q => ?_, fun q => ?_⟩
  · rw [if_pos q] at k
    refine ⟨fun q => ?_, fun q => ?_⟩
    · rw [if_pos q] at k
      exact k
    · rw [if_neg q] at k
      exact k
  · rw [if_neg q] at k
    exact k
def sy_X11_fault (a0 : Int32) (I : Nat → Nat → Int32) (J : Nat → Nat → Int64) : Int32 := (if a0 = Int32.ofInt 0 then (I 65 2) else (if a0 = (Int32.ofInt 1) then (I 65 3) else (Int32.ofInt (-1))))
theorem sg_X11_fault {SL : Nat} {xs : Nat → Int32} {d : Nat} {p s q : Nat} {Q : Option Value → mm_H → Prop} {a0 : Int32} {I : Nat → Nat → Int32} {J : Nat → Nat → Int64}  (k : ((a0 = Int32.ofInt 0 → Q (some (.int (I 65 2))) (hp p s q I J)) ∧ (¬ (a0 = Int32.ofInt 0) → ((a0 = (Int32.ofInt 1) → Q (some (.int (I 65 3))) (hp p s q I J)) ∧ (¬ (a0 = (Int32.ofInt 1)) → Q (some (.int (Int32.ofInt (-1)))) (hp p s q I J)))))) : mm_s SL xs (d + 1) 200 [.ref 65, .int a0] (hp p s q I J) Q := by
  refine e_X11_fault rfl ?_
  refine hs_L (L2 := [some (.ref 65), some (.int a0)]) rfl ?_
  refine sp_iload_n 1 rfl rfl rfl ?_
  refine sp_if_ne 4 rfl rfl (fun q_ => ?_) (fun q_ => ?_)
  · have k := k.2 q_
    refine sp_iload_n 12 rfl rfl rfl ?_
    refine sp_iconst 13 rfl rfl ?_
    refine sp_ic_ne 16 rfl rfl (fun q_ => ?_) (fun q_ => ?_)
    · have k := k.2 q_
      refine sp_iconst 24 rfl rfl ?_
      exact st_iret rfl rfl (Nat.le_refl _) (Nat.le_refl _) k
    · have k := k.1 q_
      refine sp_aload_n 17 rfl rfl rfl ?_
      refine hq_getI 20 rfl rfl rfl ?_
      refine sp_goto rfl ?_
      exact st_iret rfl rfl (Nat.le_refl _) (Nat.le_refl _) k
  · have k := k.1 q_
    refine sp_aload_n 5 rfl rfl rfl ?_
    refine hq_getI 8 rfl rfl rfl ?_
    refine sp_goto rfl ?_
    exact st_iret rfl rfl (Nat.le_refl _) (Nat.le_refl _) k
theorem cy_X11_fault {SL : Nat} {xs : Nat → Int32} {d : Nat} {p s q : Nat} {Q : Option Value → mm_H → Prop} {a0 : Int32} {I : Nat → Nat → Int32} {J : Nat → Nat → Int64}  (k : Q (some (.int (sy_X11_fault a0 I J))) (hp p s q I J)) : mm_s SL xs (d + 1) 200 [.ref 65, .int a0] (hp p s q I J) Q := by
  unfold sy_X11_fault at k
  refine sg_X11_fault  ?_
  refine ⟨fun q => ?_, fun q => ?_⟩
  · rw [if_pos q] at k
    exact k
  · rw [if_neg q] at k
    refine ⟨fun q => ?_, fun q => ?_⟩
    · rw [if_pos q] at k
      exact k
    · rw [if_neg q] at k
      exact k
def sy_X11_isPost (a0 : Int32) (I : Nat → Nat → Int32) (J : Nat → Nat → Int64) : Int32 := (if a0 < Int32.ofInt 0 then (Int32.ofInt 0) else (if (I 65 47) ≤ a0 then (Int32.ofInt 0) else (Int32.ofInt 1)))
theorem bz_X11_isPost {a0 : Int32} {I : Nat → Nat → Int32} {J : Nat → Nat → Int64} : sy_X11_isPost a0 I J = 0 ∨ sy_X11_isPost a0 I J = 1 := by
  unfold sy_X11_isPost
  repeat (first | exact Or.inl rfl | exact Or.inr rfl | exact bz_any | split)
theorem sg_X11_isPost {SL : Nat} {xs : Nat → Int32} {d : Nat} {p s q : Nat} {Q : Option Value → mm_H → Prop} {a0 : Int32} {I : Nat → Nat → Int32} {J : Nat → Nat → Int64}  (k : ((a0 < Int32.ofInt 0 → Q (some (.int (Int32.ofInt 0))) (hp p s q I J)) ∧ (¬ (a0 < Int32.ofInt 0) → (((I 65 47) ≤ a0 → Q (some (.int (Int32.ofInt 0))) (hp p s q I J)) ∧ (¬ ((I 65 47) ≤ a0) → Q (some (.int (Int32.ofInt 1))) (hp p s q I J)))))) : mm_s SL xs (d + 1) 201 [.ref 65, .int a0] (hp p s q I J) Q := by
  refine e_X11_isPost rfl ?_
  refine hs_L (L2 := [some (.ref 65), some (.int a0)]) rfl ?_
  refine sp_iload_n 1 rfl rfl rfl ?_
  refine sp_if_lt 4 rfl rfl (fun q_ => ?_) (fun q_ => ?_)
  · have k := k.1 q_
    refine sp_iconst 17 rfl rfl ?_
    exact st_zret rfl rfl (by decide) (Nat.le_refl _) (Nat.le_refl _) k
  · have k := k.2 q_
    refine sp_iload_n 5 rfl rfl rfl ?_
    refine sp_aload_n 6 rfl rfl rfl ?_
    refine hq_getI 9 rfl rfl rfl ?_
    refine sp_ic_ge 12 rfl rfl (fun q_ => ?_) (fun q_ => ?_)
    · have k := k.1 q_
      refine sp_iconst 17 rfl rfl ?_
      exact st_zret rfl rfl (by decide) (Nat.le_refl _) (Nat.le_refl _) k
    · have k := k.2 q_
      refine sp_iconst 13 rfl rfl ?_
      refine sp_goto rfl ?_
      exact st_zret rfl rfl (by decide) (Nat.le_refl _) (Nat.le_refl _) k
theorem cy_X11_isPost {SL : Nat} {xs : Nat → Int32} {d : Nat} {p s q : Nat} {Q : Option Value → mm_H → Prop} {a0 : Int32} {I : Nat → Nat → Int32} {J : Nat → Nat → Int64}  (k : Q (some (.int (sy_X11_isPost a0 I J))) (hp p s q I J)) : mm_s SL xs (d + 1) 201 [.ref 65, .int a0] (hp p s q I J) Q := by
  unfold sy_X11_isPost at k
  refine sg_X11_isPost  ?_
  refine ⟨fun q => ?_, fun q => ?_⟩
  · rw [if_pos q] at k
    exact k
  · rw [if_neg q] at k
    refine ⟨fun q => ?_, fun q => ?_⟩
    · rw [if_pos q] at k
      exact k
    · rw [if_neg q] at k
      exact k
def sy_X11_isEnded  (I : Nat → Nat → Int32) (J : Nat → Nat → Int64) : Int32 := (if (I 65 78) < (I 65 59) then (Int32.ofInt 0) else (Int32.ofInt 1))
theorem bz_X11_isEnded  {I : Nat → Nat → Int32} {J : Nat → Nat → Int64} : sy_X11_isEnded  I J = 0 ∨ sy_X11_isEnded  I J = 1 := by
  unfold sy_X11_isEnded
  repeat (first | exact Or.inl rfl | exact Or.inr rfl | exact bz_any | split)
theorem sg_X11_isEnded {SL : Nat} {xs : Nat → Int32} {d : Nat} {p s q : Nat} {Q : Option Value → mm_H → Prop}  {I : Nat → Nat → Int32} {J : Nat → Nat → Int64}  (k : (((I 65 78) < (I 65 59) → Q (some (.int (Int32.ofInt 0))) (hp p s q I J)) ∧ (¬ ((I 65 78) < (I 65 59)) → Q (some (.int (Int32.ofInt 1))) (hp p s q I J)))) : mm_s SL xs (d + 1) 208 [.ref 65] (hp p s q I J) Q := by
  refine e_X11_isEnded rfl ?_
  refine hs_L (L2 := [some (.ref 65)]) rfl ?_
  refine sp_aload_n 1 rfl rfl rfl ?_
  refine hq_getI 4 rfl rfl rfl ?_
  refine sp_aload_n 5 rfl rfl rfl ?_
  refine hq_getI 8 rfl rfl rfl ?_
  refine sp_ic_gt 11 rfl rfl (fun q_ => ?_) (fun q_ => ?_)
  · have k := k.1 q_
    refine sp_iconst 16 rfl rfl ?_
    exact st_zret rfl rfl (by decide) (Nat.le_refl _) (Nat.le_refl _) k
  · have k := k.2 q_
    refine sp_iconst 12 rfl rfl ?_
    refine sp_goto rfl ?_
    exact st_zret rfl rfl (by decide) (Nat.le_refl _) (Nat.le_refl _) k
theorem cy_X11_isEnded {SL : Nat} {xs : Nat → Int32} {d : Nat} {p s q : Nat} {Q : Option Value → mm_H → Prop}  {I : Nat → Nat → Int32} {J : Nat → Nat → Int64}  (k : Q (some (.int (sy_X11_isEnded  I J))) (hp p s q I J)) : mm_s SL xs (d + 1) 208 [.ref 65] (hp p s q I J) Q := by
  unfold sy_X11_isEnded at k
  refine sg_X11_isEnded  ?_
  refine ⟨fun q => ?_, fun q => ?_⟩
  · rw [if_pos q] at k
    exact k
  · rw [if_neg q] at k
    exact k
def sy_X0_areNear (a0 : Int32) (I : Nat → Nat → Int32) (J : Nat → Nat → Int64) : Int32 := (if (I 21 3) = (Int32.ofInt (-1)) then (Int32.ofInt 0) else (if (I 21 4) = (Int32.ofInt (-1)) then (Int32.ofInt 0) else (if (sx_J9_abs_0f7a4 ((I 21 3) - (I 21 4))) ≤ (Int32.ofInt 1) then (Int32.ofInt 1) else (if (sx_J9_abs_0f7a4 ((I 21 3) - (I 21 4))) = (a0 - (Int32.ofInt 1)) then (Int32.ofInt 1) else (Int32.ofInt 0)))))
theorem bz_X0_areNear {a0 : Int32} {I : Nat → Nat → Int32} {J : Nat → Nat → Int64} : sy_X0_areNear a0 I J = 0 ∨ sy_X0_areNear a0 I J = 1 := by
  unfold sy_X0_areNear
  repeat (first | exact Or.inl rfl | exact Or.inr rfl | exact bz_any | split)
theorem sg_X0_areNear {SL : Nat} {xs : Nat → Int32} {d : Nat} {p s q : Nat} {Q : Option Value → mm_H → Prop} {a0 : Int32} {I : Nat → Nat → Int32} {J : Nat → Nat → Int64}  (k : (((I 21 3) = (Int32.ofInt (-1)) → Q (some (.int (Int32.ofInt 0))) (hp p s q I J)) ∧ (¬ ((I 21 3) = (Int32.ofInt (-1))) → (((I 21 4) = (Int32.ofInt (-1)) → Q (some (.int (Int32.ofInt 0))) (hp p s q I J)) ∧ (¬ ((I 21 4) = (Int32.ofInt (-1))) → (((sx_J9_abs_0f7a4 ((I 21 3) - (I 21 4))) ≤ (Int32.ofInt 1) → Q (some (.int (Int32.ofInt 1))) (hp p s q I J)) ∧ (¬ ((sx_J9_abs_0f7a4 ((I 21 3) - (I 21 4))) ≤ (Int32.ofInt 1)) → (((sx_J9_abs_0f7a4 ((I 21 3) - (I 21 4))) = (a0 - (Int32.ofInt 1)) → Q (some (.int (Int32.ofInt 1))) (hp p s q I J)) ∧ (¬ ((sx_J9_abs_0f7a4 ((I 21 3) - (I 21 4))) = (a0 - (Int32.ofInt 1))) → Q (some (.int (Int32.ofInt 0))) (hp p s q I J)))))))))) : mm_s SL xs (d + 2) 7 [.ref 20, .int a0] (hp p s q I J) Q := by
  refine e_X0_areNear rfl ?_
  refine hs_L (L2 := [some (.ref 20), some (.int a0), none]) rfl ?_
  refine sp_aload_n 1 rfl rfl rfl ?_
  refine hq_getR 4 rfl rfl rfl rfl ?_
  refine hq_getI 7 rfl rfl rfl ?_
  refine sp_iconst 8 rfl rfl ?_
  refine sp_ic_eq 11 rfl rfl (fun q_ => ?_) (fun q_ => ?_)
  · have k := k.1 q_
    refine sp_iconst 23 rfl rfl ?_
    exact st_zret rfl rfl (by decide) (Nat.le_refl _) (Nat.le_refl _) k
  · have k := k.2 q_
    refine sp_aload_n 12 rfl rfl rfl ?_
    refine hq_getR 15 rfl rfl rfl rfl ?_
    refine hq_getI 18 rfl rfl rfl ?_
    refine sp_iconst 19 rfl rfl ?_
    refine sp_ic_ne 22 rfl rfl (fun q_ => ?_) (fun q_ => ?_)
    · have k := k.2 q_
      refine sp_aload_n 25 rfl rfl rfl ?_
      refine hq_getR 28 rfl rfl rfl rfl ?_
      refine hq_getI 31 rfl rfl rfl ?_
      refine sp_aload_n 32 rfl rfl rfl ?_
      refine hq_getR 35 rfl rfl rfl rfl ?_
      refine hq_getI 38 rfl rfl rfl ?_
      refine sp_isub 39 rfl rfl ?_
      refine sc_S 42 rfl rfl rfl rfl (Nat.le_refl _) (Nat.le_refl _) rfl ?_
      refine cx_J9_abs_0f7a4 ?_
      refine hs_S (st2 := [.int (sx_J9_abs_0f7a4 ((I 21 3) - (I 21 4)))]) rfl ?_
      refine hs_istore_n 43 (L2 := [some (.ref 20), some (.int a0), some (.int (sx_J9_abs_0f7a4 ((I 21 3) - (I 21 4))))]) rfl rfl rfl rfl ?_
      refine sp_iload_n 44 rfl rfl rfl ?_
      refine sp_iconst 45 rfl rfl ?_
      refine sp_ic_le 48 rfl rfl (fun q_ => ?_) (fun q_ => ?_)
      · have k := k.1 q_
        refine sp_iconst 56 rfl rfl ?_
        refine sp_goto rfl ?_
        exact st_zret rfl rfl (by decide) (Nat.le_refl _) (Nat.le_refl _) k
      · have k := k.2 q_
        refine sp_iload_n 49 rfl rfl rfl ?_
        refine sp_iload_n 50 rfl rfl rfl ?_
        refine sp_iconst 51 rfl rfl ?_
        refine sp_isub 52 rfl rfl ?_
        refine sp_ic_ne 55 rfl rfl (fun q_ => ?_) (fun q_ => ?_)
        · have k := k.2 q_
          refine sp_iconst 60 rfl rfl ?_
          exact st_zret rfl rfl (by decide) (Nat.le_refl _) (Nat.le_refl _) k
        · have k := k.1 q_
          refine sp_iconst 56 rfl rfl ?_
          refine sp_goto rfl ?_
          exact st_zret rfl rfl (by decide) (Nat.le_refl _) (Nat.le_refl _) k
    · have k := k.1 q_
      refine sp_iconst 23 rfl rfl ?_
      exact st_zret rfl rfl (by decide) (Nat.le_refl _) (Nat.le_refl _) k
theorem cy_X0_areNear {SL : Nat} {xs : Nat → Int32} {d : Nat} {p s q : Nat} {Q : Option Value → mm_H → Prop} {a0 : Int32} {I : Nat → Nat → Int32} {J : Nat → Nat → Int64}  (k : Q (some (.int (sy_X0_areNear a0 I J))) (hp p s q I J)) : mm_s SL xs (d + 2) 7 [.ref 20, .int a0] (hp p s q I J) Q := by
  unfold sy_X0_areNear at k
  refine sg_X0_areNear  ?_
  refine ⟨fun q => ?_, fun q => ?_⟩
  · rw [if_pos q] at k
    exact k
  · rw [if_neg q] at k
    refine ⟨fun q => ?_, fun q => ?_⟩
    · rw [if_pos q] at k
      exact k
    · rw [if_neg q] at k
      refine ⟨fun q => ?_, fun q => ?_⟩
      · rw [if_pos q] at k
        exact k
      · rw [if_neg q] at k
        refine ⟨fun q => ?_, fun q => ?_⟩
        · rw [if_pos q] at k
          exact k
        · rw [if_neg q] at k
          exact k
def sy_X1_standing (o : Nat) (I : Nat → Nat → Int32) (J : Nat → Nat → Int64) : Int32 := (sx_J13_bitCount_95d88 (J o 1))
theorem sg_X1_standing {SL : Nat} {xs : Nat → Int32} {d : Nat} {p s q : Nat} {Q : Option Value → mm_H → Prop} {o : Nat} {I : Nat → Nat → Int32} {J : Nat → Nat → Int64} (h_o : isC o) (k : Q (some (.int (sx_J13_bitCount_95d88 (J o 1)))) (hp p s q I J)) : mm_s SL xs (d + 2) 15 [.ref o] (hp p s q I J) Q := by
  refine e_X1_standing rfl ?_
  refine hs_L (L2 := [some (.ref o)]) rfl ?_
  refine sp_aload_n 1 rfl rfl rfl ?_
  refine hq_getJ 4 rfl (kC0 h_o) rfl ?_
  refine sc_S 7 rfl rfl rfl rfl (Nat.le_refl _) (Nat.le_refl _) rfl ?_
  refine cx_J13_bitCount_95d88 ?_
  refine hs_S (st2 := [.int (sx_J13_bitCount_95d88 (J o 1))]) rfl ?_
  exact st_iret rfl rfl (Nat.le_refl _) (Nat.le_refl _) k
theorem cy_X1_standing {SL : Nat} {xs : Nat → Int32} {d : Nat} {p s q : Nat} {Q : Option Value → mm_H → Prop} {o : Nat} {I : Nat → Nat → Int32} {J : Nat → Nat → Int64} (h_o : isC o) (k : Q (some (.int (sy_X1_standing o I J))) (hp p s q I J)) : mm_s SL xs (d + 2) 15 [.ref o] (hp p s q I J) Q := by
  unfold sy_X1_standing at k
  refine sg_X1_standing h_o ?_
  exact k
def sy_X1_standsAt (o : Nat) (a0 : Int32) (I : Nat → Nat → Int32) (J : Nat → Nat → Int64) : Int32 := (sx_X6_has (J o 1) a0)
theorem bz_X1_standsAt {o : Nat} {a0 : Int32} {I : Nat → Nat → Int32} {J : Nat → Nat → Int64} : sy_X1_standsAt o a0 I J = 0 ∨ sy_X1_standsAt o a0 I J = 1 := (bz_X6_has)
theorem sg_X1_standsAt {SL : Nat} {xs : Nat → Int32} {d : Nat} {p s q : Nat} {Q : Option Value → mm_H → Prop} {o : Nat} {a0 : Int32} {I : Nat → Nat → Int32} {J : Nat → Nat → Int64} (h_o : isC o) (k : Q (some (.int (sx_X6_has (J o 1) a0))) (hp p s q I J)) : mm_s SL xs (d + 2) 16 [.ref o, .int a0] (hp p s q I J) Q := by
  refine e_X1_standsAt rfl ?_
  refine hs_L (L2 := [some (.ref o), some (.int a0)]) rfl ?_
  refine sp_aload_n 1 rfl rfl rfl ?_
  refine hq_getJ 4 rfl (kC0 h_o) rfl ?_
  refine sp_iload_n 5 rfl rfl rfl ?_
  refine sc_S 8 rfl rfl rfl rfl (Nat.le_refl _) (Nat.le_refl _) rfl ?_
  refine cx_X6_has ?_
  refine hs_S (st2 := [.int (sx_X6_has (J o 1) a0)]) rfl ?_
  exact st_zret rfl rfl (bz_X6_has) (Nat.le_refl _) (Nat.le_refl _) k
theorem cy_X1_standsAt {SL : Nat} {xs : Nat → Int32} {d : Nat} {p s q : Nat} {Q : Option Value → mm_H → Prop} {o : Nat} {a0 : Int32} {I : Nat → Nat → Int32} {J : Nat → Nat → Int64} (h_o : isC o) (k : Q (some (.int (sy_X1_standsAt o a0 I J))) (hp p s q I J)) : mm_s SL xs (d + 2) 16 [.ref o, .int a0] (hp p s q I J) Q := by
  unfold sy_X1_standsAt at k
  refine sg_X1_standsAt h_o ?_
  exact k
def sy_X1_firstLook (o : Nat) (a0 : Nat) (a1 : Int32) (a2 : Int32) (I : Nat → Nat → Int32) (J : Nat → Nat → Int64) : Int32 := (if a1 = Int32.ofInt 0 then (if (I o 3) = (Int32.ofInt (-1)) then (if a1 = Int32.ofInt 0 then (I o 9) else (I a0 5)) else (sx_X6_next (I o 3) (I a0 0) a2)) else (if (I o 4) = (Int32.ofInt (-1)) then (if a1 = Int32.ofInt 0 then (I o 9) else (I a0 5)) else (sx_X6_next (I o 4) (I a0 0) a2)))
theorem sg_X1_firstLook {SL : Nat} {xs : Nat → Int32} {d : Nat} {p s q : Nat} {Q : Option Value → mm_H → Prop} {o : Nat} {a0 : Nat} {a1 : Int32} {a2 : Int32} {I : Nat → Nat → Int32} {J : Nat → Nat → Int64} (h_a0 : isP a0) (h_o : isC o) (k : ((a1 = Int32.ofInt 0 → (((I o 3) = (Int32.ofInt (-1)) → ((a1 = Int32.ofInt 0 → Q (some (.int (I o 9))) (hp p s q I J)) ∧ (¬ (a1 = Int32.ofInt 0) → Q (some (.int (I a0 5))) (hp p s q I J)))) ∧ (¬ ((I o 3) = (Int32.ofInt (-1))) → Q (some (.int (sx_X6_next (I o 3) (I a0 0) a2))) (hp p s q I J)))) ∧ (¬ (a1 = Int32.ofInt 0) → (((I o 4) = (Int32.ofInt (-1)) → ((a1 = Int32.ofInt 0 → Q (some (.int (I o 9))) (hp p s q I J)) ∧ (¬ (a1 = Int32.ofInt 0) → Q (some (.int (I a0 5))) (hp p s q I J)))) ∧ (¬ ((I o 4) = (Int32.ofInt (-1))) → Q (some (.int (sx_X6_next (I o 4) (I a0 0) a2))) (hp p s q I J)))))) : mm_s SL xs (d + 2) 22 [.ref o, .ref a0, .int a1, .int a2] (hp p s q I J) Q := by
  refine e_X1_firstLook rfl ?_
  refine hs_L (L2 := [some (.ref o), some (.ref a0), some (.int a1), some (.int a2), none]) rfl ?_
  refine sp_iload_n 1 rfl rfl rfl ?_
  refine sp_if_eq 4 rfl rfl (fun q_ => ?_) (fun q_ => ?_)
  · have k := k.1 q_
    refine sp_aload_n 12 rfl rfl rfl ?_
    refine hq_getI 15 rfl (kC0 h_o) rfl ?_
    refine hs_istore 17 (L2 := [some (.ref o), some (.ref a0), some (.int a1), some (.int a2), some (.int (I o 3))]) rfl rfl rfl rfl ?_
    refine sp_iload 19 rfl rfl rfl ?_
    refine sp_iconst 20 rfl rfl ?_
    refine sp_ic_ne 23 rfl rfl (fun q_ => ?_) (fun q_ => ?_)
    · have k := k.2 q_
      refine sp_iload 41 rfl rfl rfl ?_
      refine sp_aload_n 42 rfl rfl rfl ?_
      refine hq_getI 45 rfl (kP0 h_a0) rfl ?_
      refine sp_iload_n 46 rfl rfl rfl ?_
      refine sc_S 49 rfl rfl rfl rfl (Nat.le_refl _) (Nat.le_refl _) rfl ?_
      refine cx_X6_next ?_
      refine hs_S (st2 := [.int (sx_X6_next (I o 3) (I a0 0) a2)]) rfl ?_
      exact st_iret rfl rfl (Nat.le_refl _) (Nat.le_refl _) k
    · have k := k.1 q_
      refine sp_iload_n 24 rfl rfl rfl ?_
      refine sp_if_eq 27 rfl rfl (fun q_ => ?_) (fun q_ => ?_)
      · have k := k.1 q_
        refine sp_aload_n 35 rfl rfl rfl ?_
        refine hq_getI 38 rfl (kC0 h_o) rfl ?_
        exact st_iret rfl rfl (Nat.le_refl _) (Nat.le_refl _) k
      · have k := k.2 q_
        refine sp_aload_n 28 rfl rfl rfl ?_
        refine hq_getI 31 rfl (kP0 h_a0) rfl ?_
        refine sp_goto rfl ?_
        exact st_iret rfl rfl (Nat.le_refl _) (Nat.le_refl _) k
  · have k := k.2 q_
    refine sp_aload_n 5 rfl rfl rfl ?_
    refine hq_getI 8 rfl (kC0 h_o) rfl ?_
    refine sp_goto rfl ?_
    refine hs_istore 17 (L2 := [some (.ref o), some (.ref a0), some (.int a1), some (.int a2), some (.int (I o 4))]) rfl rfl rfl rfl ?_
    refine sp_iload 19 rfl rfl rfl ?_
    refine sp_iconst 20 rfl rfl ?_
    refine sp_ic_ne 23 rfl rfl (fun q_ => ?_) (fun q_ => ?_)
    · have k := k.2 q_
      refine sp_iload 41 rfl rfl rfl ?_
      refine sp_aload_n 42 rfl rfl rfl ?_
      refine hq_getI 45 rfl (kP0 h_a0) rfl ?_
      refine sp_iload_n 46 rfl rfl rfl ?_
      refine sc_S 49 rfl rfl rfl rfl (Nat.le_refl _) (Nat.le_refl _) rfl ?_
      refine cx_X6_next ?_
      refine hs_S (st2 := [.int (sx_X6_next (I o 4) (I a0 0) a2)]) rfl ?_
      exact st_iret rfl rfl (Nat.le_refl _) (Nat.le_refl _) k
    · have k := k.1 q_
      refine sp_iload_n 24 rfl rfl rfl ?_
      refine sp_if_eq 27 rfl rfl (fun q_ => ?_) (fun q_ => ?_)
      · have k := k.1 q_
        refine sp_aload_n 35 rfl rfl rfl ?_
        refine hq_getI 38 rfl (kC0 h_o) rfl ?_
        exact st_iret rfl rfl (Nat.le_refl _) (Nat.le_refl _) k
      · have k := k.2 q_
        refine sp_aload_n 28 rfl rfl rfl ?_
        refine hq_getI 31 rfl (kP0 h_a0) rfl ?_
        refine sp_goto rfl ?_
        exact st_iret rfl rfl (Nat.le_refl _) (Nat.le_refl _) k
theorem cy_X1_firstLook {SL : Nat} {xs : Nat → Int32} {d : Nat} {p s q : Nat} {Q : Option Value → mm_H → Prop} {o : Nat} {a0 : Nat} {a1 : Int32} {a2 : Int32} {I : Nat → Nat → Int32} {J : Nat → Nat → Int64} (h_a0 : isP a0) (h_o : isC o) (k : Q (some (.int (sy_X1_firstLook o a0 a1 a2 I J))) (hp p s q I J)) : mm_s SL xs (d + 2) 22 [.ref o, .ref a0, .int a1, .int a2] (hp p s q I J) Q := by
  unfold sy_X1_firstLook at k
  refine sg_X1_firstLook h_a0 h_o ?_
  refine ⟨fun q => ?_, fun q => ?_⟩
  · rw [if_pos q] at k
    refine ⟨fun q => ?_, fun q => ?_⟩
    · rw [if_pos q] at k
      refine ⟨fun q => ?_, fun q => ?_⟩
      · rw [if_pos q] at k
        exact k
      · rw [if_neg q] at k
        exact k
    · rw [if_neg q] at k
      exact k
  · rw [if_neg q] at k
    refine ⟨fun q => ?_, fun q => ?_⟩
    · rw [if_pos q] at k
      refine ⟨fun q => ?_, fun q => ?_⟩
      · rw [if_pos q] at k
        exact k
      · rw [if_neg q] at k
        exact k
    · rw [if_neg q] at k
      exact k
def sy_X5_hitsToGo (o : Nat) (a0 : Int32) (I : Nat → Nat → Int32) (J : Nat → Nat → Int64) : Int32 := (if (sx_X6_has (J o 6) a0) = Int32.ofInt 0 then ((I o 4) + (Int32.ofInt 1)) else ((I o 4) + (Int32.ofInt 2)))
theorem sg_X5_hitsToGo {SL : Nat} {xs : Nat → Int32} {d : Nat} {p s q : Nat} {Q : Option Value → mm_H → Prop} {o : Nat} {a0 : Int32} {I : Nat → Nat → Int32} {J : Nat → Nat → Int64} (h_o : isP o) (k : (((sx_X6_has (J o 6) a0) = Int32.ofInt 0 → Q (some (.int ((I o 4) + (Int32.ofInt 1)))) (hp p s q I J)) ∧ (¬ ((sx_X6_has (J o 6) a0) = Int32.ofInt 0) → Q (some (.int ((I o 4) + (Int32.ofInt 2)))) (hp p s q I J)))) : mm_s SL xs (d + 2) 59 [.ref o, .int a0] (hp p s q I J) Q := by
  refine e_X5_hitsToGo rfl ?_
  refine hs_L (L2 := [some (.ref o), some (.int a0)]) rfl ?_
  refine sp_aload_n 1 rfl rfl rfl ?_
  refine hq_getJ 4 rfl (kP0 h_o) rfl ?_
  refine sp_iload_n 5 rfl rfl rfl ?_
  refine sc_S 8 rfl rfl rfl rfl (Nat.le_refl _) (Nat.le_refl _) rfl ?_
  refine cx_X6_has ?_
  refine hs_S (st2 := [.int (sx_X6_has (J o 6) a0)]) rfl ?_
  refine sp_if_eq 11 rfl rfl (fun q_ => ?_) (fun q_ => ?_)
  · have k := k.1 q_
    refine sp_aload_n 21 rfl rfl rfl ?_
    refine hq_getI 24 rfl (kP0 h_o) rfl ?_
    refine sp_iconst 25 rfl rfl ?_
    refine sp_iadd 26 rfl rfl ?_
    exact st_iret rfl rfl (Nat.le_refl _) (Nat.le_refl _) k
  · have k := k.2 q_
    refine sp_aload_n 12 rfl rfl rfl ?_
    refine hq_getI 15 rfl (kP0 h_o) rfl ?_
    refine sp_iconst 16 rfl rfl ?_
    refine sp_iadd 17 rfl rfl ?_
    refine sp_goto rfl ?_
    exact st_iret rfl rfl (Nat.le_refl _) (Nat.le_refl _) k
theorem cy_X5_hitsToGo {SL : Nat} {xs : Nat → Int32} {d : Nat} {p s q : Nat} {Q : Option Value → mm_H → Prop} {o : Nat} {a0 : Int32} {I : Nat → Nat → Int32} {J : Nat → Nat → Int64} (h_o : isP o) (k : Q (some (.int (sy_X5_hitsToGo o a0 I J))) (hp p s q I J)) : mm_s SL xs (d + 2) 59 [.ref o, .int a0] (hp p s q I J) Q := by
  unfold sy_X5_hitsToGo at k
  refine sg_X5_hitsToGo h_o ?_
  refine ⟨fun q => ?_, fun q => ?_⟩
  · rw [if_pos q] at k
    exact k
  · rw [if_neg q] at k
    exact k
def sy_X11_known  (I : Nat → Nat → Int32) (J : Nat → Nat → Int64) : Int32 := (if (sy_X11_isWord (Int64.ofInt 444250812007) I J) = Int32.ofInt 0 then (if (sy_X11_isWord (Int64.ofInt 1751478885) I J) = Int32.ofInt 0 then (if (sy_X11_isWord (Int64.ofInt 1818325876) I J) = Int32.ofInt 0 then (if (sy_X11_isWord (Int64.ofInt 512970876019) I J) = Int32.ofInt 0 then (if (sy_X11_isWord (Int64.ofInt 495689625203) I J) = Int32.ofInt 0 then (Int32.ofInt (-1)) else (Int32.ofInt 5)) else (Int32.ofInt 4)) else (Int32.ofInt 3)) else (Int32.ofInt 2)) else (Int32.ofInt 1))
theorem sg_X11_known {SL : Nat} {xs : Nat → Int32} {d : Nat} {p s q : Nat} {Q : Option Value → mm_H → Prop}  {I : Nat → Nat → Int32} {J : Nat → Nat → Int64}  (k : (((sy_X11_isWord (Int64.ofInt 444250812007) I J) = Int32.ofInt 0 → (((sy_X11_isWord (Int64.ofInt 1751478885) I J) = Int32.ofInt 0 → (((sy_X11_isWord (Int64.ofInt 1818325876) I J) = Int32.ofInt 0 → (((sy_X11_isWord (Int64.ofInt 512970876019) I J) = Int32.ofInt 0 → (((sy_X11_isWord (Int64.ofInt 495689625203) I J) = Int32.ofInt 0 → Q (some (.int (Int32.ofInt (-1)))) (hp p s q I J)) ∧ (¬ ((sy_X11_isWord (Int64.ofInt 495689625203) I J) = Int32.ofInt 0) → Q (some (.int (Int32.ofInt 5))) (hp p s q I J)))) ∧ (¬ ((sy_X11_isWord (Int64.ofInt 512970876019) I J) = Int32.ofInt 0) → Q (some (.int (Int32.ofInt 4))) (hp p s q I J)))) ∧ (¬ ((sy_X11_isWord (Int64.ofInt 1818325876) I J) = Int32.ofInt 0) → Q (some (.int (Int32.ofInt 3))) (hp p s q I J)))) ∧ (¬ ((sy_X11_isWord (Int64.ofInt 1751478885) I J) = Int32.ofInt 0) → Q (some (.int (Int32.ofInt 2))) (hp p s q I J)))) ∧ (¬ ((sy_X11_isWord (Int64.ofInt 444250812007) I J) = Int32.ofInt 0) → Q (some (.int (Int32.ofInt 1))) (hp p s q I J)))) : mm_s SL xs (d + 2) 186 [.ref 65] (hp p s q I J) Q := by
  refine e_X11_known rfl ?_
  refine hs_L (L2 := [some (.ref 65)]) rfl ?_
  refine sp_aload_n 1 rfl rfl rfl ?_
  refine sp_ldc2 4 rfl rfl ?_
  refine sc_V 7 rfl rfl rfl rfl rfl (Nat.le_refl _) (Nat.le_refl _) rfl ?_
  refine cy_X11_isWord ?_
  refine sp_if_eq 10 rfl rfl (fun q_ => ?_) (fun q_ => ?_)
  · have k := k.1 q_
    refine sp_aload_n 15 rfl rfl rfl ?_
    refine sp_ldc2 18 rfl rfl ?_
    refine sc_V 21 rfl rfl rfl rfl rfl (Nat.le_refl _) (Nat.le_refl _) rfl ?_
    refine cy_X11_isWord ?_
    refine sp_if_eq 24 rfl rfl (fun q_ => ?_) (fun q_ => ?_)
    · have k := k.1 q_
      refine sp_aload_n 29 rfl rfl rfl ?_
      refine sp_ldc2 32 rfl rfl ?_
      refine sc_V 35 rfl rfl rfl rfl rfl (Nat.le_refl _) (Nat.le_refl _) rfl ?_
      refine cy_X11_isWord ?_
      refine sp_if_eq 38 rfl rfl (fun q_ => ?_) (fun q_ => ?_)
      · have k := k.1 q_
        refine sp_aload_n 43 rfl rfl rfl ?_
        refine sp_ldc2 46 rfl rfl ?_
        refine sc_V 49 rfl rfl rfl rfl rfl (Nat.le_refl _) (Nat.le_refl _) rfl ?_
        refine cy_X11_isWord ?_
        refine sp_if_eq 52 rfl rfl (fun q_ => ?_) (fun q_ => ?_)
        · have k := k.1 q_
          refine sp_aload_n 57 rfl rfl rfl ?_
          refine sp_ldc2 60 rfl rfl ?_
          refine sc_V 63 rfl rfl rfl rfl rfl (Nat.le_refl _) (Nat.le_refl _) rfl ?_
          refine cy_X11_isWord ?_
          refine sp_if_eq 66 rfl rfl (fun q_ => ?_) (fun q_ => ?_)
          · have k := k.1 q_
            refine sp_iconst 71 rfl rfl ?_
            exact st_iret rfl rfl (Nat.le_refl _) (Nat.le_refl _) k
          · have k := k.2 q_
            refine sp_iconst 67 rfl rfl ?_
            refine sp_goto rfl ?_
            exact st_iret rfl rfl (Nat.le_refl _) (Nat.le_refl _) k
        · have k := k.2 q_
          refine sp_iconst 53 rfl rfl ?_
          refine sp_goto rfl ?_
          exact st_iret rfl rfl (Nat.le_refl _) (Nat.le_refl _) k
      · have k := k.2 q_
        refine sp_iconst 39 rfl rfl ?_
        refine sp_goto rfl ?_
        exact st_iret rfl rfl (Nat.le_refl _) (Nat.le_refl _) k
    · have k := k.2 q_
      refine sp_iconst 25 rfl rfl ?_
      refine sp_goto rfl ?_
      exact st_iret rfl rfl (Nat.le_refl _) (Nat.le_refl _) k
  · have k := k.2 q_
    refine sp_iconst 11 rfl rfl ?_
    refine sp_goto rfl ?_
    exact st_iret rfl rfl (Nat.le_refl _) (Nat.le_refl _) k
theorem cy_X11_known {SL : Nat} {xs : Nat → Int32} {d : Nat} {p s q : Nat} {Q : Option Value → mm_H → Prop}  {I : Nat → Nat → Int32} {J : Nat → Nat → Int64}  (k : Q (some (.int (sy_X11_known  I J))) (hp p s q I J)) : mm_s SL xs (d + 2) 186 [.ref 65] (hp p s q I J) Q := by
  unfold sy_X11_known at k
  refine sg_X11_known  ?_
  refine ⟨fun q => ?_, fun q => ?_⟩
  · rw [if_pos q] at k
    refine ⟨fun q => ?_, fun q => ?_⟩
    · rw [if_pos q] at k
      refine ⟨fun q => ?_, fun q => ?_⟩
      · rw [if_pos q] at k
        refine ⟨fun q => ?_, fun q => ?_⟩
        · rw [if_pos q] at k
          refine ⟨fun q => ?_, fun q => ?_⟩
          · rw [if_pos q] at k
            exact k
          · rw [if_neg q] at k
            exact k
        · rw [if_neg q] at k
          exact k
      · rw [if_neg q] at k
        exact k
    · rw [if_neg q] at k
      exact k
  · rw [if_neg q] at k
    exact k
def sy_X11_signOf  (I : Nat → Nat → Int32) (J : Nat → Nat → Int64) : Int32 := (if (I 65 6) = (Int32.ofInt 43) then (Int32.ofInt 26) else (if (I 65 6) = (Int32.ofInt 45) then (Int32.ofInt 27) else (if (I 65 6) = (Int32.ofInt 42) then (Int32.ofInt 28) else (if (I 65 6) = (Int32.ofInt 47) then (Int32.ofInt 29) else (if (I 65 6) = (Int32.ofInt 61) then (Int32.ofInt 23) else (if (I 65 6) = (Int32.ofInt 60) then (Int32.ofInt 24) else (if (I 65 6) = (Int32.ofInt 62) then (Int32.ofInt 25) else (if (sy_X11_isWord (Int64.ofInt 6385252) I J) = Int32.ofInt 0 then (if (sy_X11_isWord (Int64.ofInt 28530) I J) = Int32.ofInt 0 then (Int32.ofInt (-1)) else (Int32.ofInt 20)) else (Int32.ofInt 21)))))))))
theorem sg_X11_signOf {SL : Nat} {xs : Nat → Int32} {d : Nat} {p s q : Nat} {Q : Option Value → mm_H → Prop}  {I : Nat → Nat → Int32} {J : Nat → Nat → Int64}  (k : (((I 65 6) = (Int32.ofInt 43) → Q (some (.int (Int32.ofInt 26))) (hp p s q I J)) ∧ (¬ ((I 65 6) = (Int32.ofInt 43)) → (((I 65 6) = (Int32.ofInt 45) → Q (some (.int (Int32.ofInt 27))) (hp p s q I J)) ∧ (¬ ((I 65 6) = (Int32.ofInt 45)) → (((I 65 6) = (Int32.ofInt 42) → Q (some (.int (Int32.ofInt 28))) (hp p s q I J)) ∧ (¬ ((I 65 6) = (Int32.ofInt 42)) → (((I 65 6) = (Int32.ofInt 47) → Q (some (.int (Int32.ofInt 29))) (hp p s q I J)) ∧ (¬ ((I 65 6) = (Int32.ofInt 47)) → (((I 65 6) = (Int32.ofInt 61) → Q (some (.int (Int32.ofInt 23))) (hp p s q I J)) ∧ (¬ ((I 65 6) = (Int32.ofInt 61)) → (((I 65 6) = (Int32.ofInt 60) → Q (some (.int (Int32.ofInt 24))) (hp p s q I J)) ∧ (¬ ((I 65 6) = (Int32.ofInt 60)) → (((I 65 6) = (Int32.ofInt 62) → Q (some (.int (Int32.ofInt 25))) (hp p s q I J)) ∧ (¬ ((I 65 6) = (Int32.ofInt 62)) → (((sy_X11_isWord (Int64.ofInt 6385252) I J) = Int32.ofInt 0 → (((sy_X11_isWord (Int64.ofInt 28530) I J) = Int32.ofInt 0 → Q (some (.int (Int32.ofInt (-1)))) (hp p s q I J)) ∧ (¬ ((sy_X11_isWord (Int64.ofInt 28530) I J) = Int32.ofInt 0) → Q (some (.int (Int32.ofInt 20))) (hp p s q I J)))) ∧ (¬ ((sy_X11_isWord (Int64.ofInt 6385252) I J) = Int32.ofInt 0) → Q (some (.int (Int32.ofInt 21))) (hp p s q I J)))))))))))))))))) : mm_s SL xs (d + 2) 188 [.ref 65] (hp p s q I J) Q := by
  refine e_X11_signOf rfl ?_
  refine hs_L (L2 := [some (.ref 65)]) rfl ?_
  refine sp_aload_n 1 rfl rfl rfl ?_
  refine hq_getI 4 rfl rfl rfl ?_
  refine sp_bipush 6 rfl rfl ?_
  refine sp_I (y := Int32.ofInt 43) rfl ?_
  refine sp_ic_ne 9 rfl rfl (fun q_ => ?_) (fun q_ => ?_)
  · have k := k.2 q_
    refine sp_aload_n 15 rfl rfl rfl ?_
    refine hq_getI 18 rfl rfl rfl ?_
    refine sp_bipush 20 rfl rfl ?_
    refine sp_I (y := Int32.ofInt 45) rfl ?_
    refine sp_ic_ne 23 rfl rfl (fun q_ => ?_) (fun q_ => ?_)
    · have k := k.2 q_
      refine sp_aload_n 29 rfl rfl rfl ?_
      refine hq_getI 32 rfl rfl rfl ?_
      refine sp_bipush 34 rfl rfl ?_
      refine sp_I (y := Int32.ofInt 42) rfl ?_
      refine sp_ic_ne 37 rfl rfl (fun q_ => ?_) (fun q_ => ?_)
      · have k := k.2 q_
        refine sp_aload_n 43 rfl rfl rfl ?_
        refine hq_getI 46 rfl rfl rfl ?_
        refine sp_bipush 48 rfl rfl ?_
        refine sp_I (y := Int32.ofInt 47) rfl ?_
        refine sp_ic_ne 51 rfl rfl (fun q_ => ?_) (fun q_ => ?_)
        · have k := k.2 q_
          refine sp_aload_n 57 rfl rfl rfl ?_
          refine hq_getI 60 rfl rfl rfl ?_
          refine sp_bipush 62 rfl rfl ?_
          refine sp_I (y := Int32.ofInt 61) rfl ?_
          refine sp_ic_ne 65 rfl rfl (fun q_ => ?_) (fun q_ => ?_)
          · have k := k.2 q_
            refine sp_aload_n 71 rfl rfl rfl ?_
            refine hq_getI 74 rfl rfl rfl ?_
            refine sp_bipush 76 rfl rfl ?_
            refine sp_I (y := Int32.ofInt 60) rfl ?_
            refine sp_ic_ne 79 rfl rfl (fun q_ => ?_) (fun q_ => ?_)
            · have k := k.2 q_
              refine sp_aload_n 85 rfl rfl rfl ?_
              refine hq_getI 88 rfl rfl rfl ?_
              refine sp_bipush 90 rfl rfl ?_
              refine sp_I (y := Int32.ofInt 62) rfl ?_
              refine sp_ic_ne 93 rfl rfl (fun q_ => ?_) (fun q_ => ?_)
              · have k := k.2 q_
                refine sp_aload_n 99 rfl rfl rfl ?_
                refine sp_ldc2 102 rfl rfl ?_
                refine sc_V 105 rfl rfl rfl rfl rfl (Nat.le_refl _) (Nat.le_refl _) rfl ?_
                refine cy_X11_isWord ?_
                refine sp_if_eq 108 rfl rfl (fun q_ => ?_) (fun q_ => ?_)
                · have k := k.1 q_
                  refine sp_aload_n 114 rfl rfl rfl ?_
                  refine sp_ldc2 117 rfl rfl ?_
                  refine sc_V 120 rfl rfl rfl rfl rfl (Nat.le_refl _) (Nat.le_refl _) rfl ?_
                  refine cy_X11_isWord ?_
                  refine sp_if_eq 123 rfl rfl (fun q_ => ?_) (fun q_ => ?_)
                  · have k := k.1 q_
                    refine sp_iconst 129 rfl rfl ?_
                    exact st_iret rfl rfl (Nat.le_refl _) (Nat.le_refl _) k
                  · have k := k.2 q_
                    refine sp_bipush 125 rfl rfl ?_
                    refine sp_I (y := Int32.ofInt 20) rfl ?_
                    refine sp_goto rfl ?_
                    exact st_iret rfl rfl (Nat.le_refl _) (Nat.le_refl _) k
                · have k := k.2 q_
                  refine sp_bipush 110 rfl rfl ?_
                  refine sp_I (y := Int32.ofInt 21) rfl ?_
                  refine sp_goto rfl ?_
                  exact st_iret rfl rfl (Nat.le_refl _) (Nat.le_refl _) k
              · have k := k.1 q_
                refine sp_bipush 95 rfl rfl ?_
                refine sp_I (y := Int32.ofInt 25) rfl ?_
                refine sp_goto rfl ?_
                exact st_iret rfl rfl (Nat.le_refl _) (Nat.le_refl _) k
            · have k := k.1 q_
              refine sp_bipush 81 rfl rfl ?_
              refine sp_I (y := Int32.ofInt 24) rfl ?_
              refine sp_goto rfl ?_
              exact st_iret rfl rfl (Nat.le_refl _) (Nat.le_refl _) k
          · have k := k.1 q_
            refine sp_bipush 67 rfl rfl ?_
            refine sp_I (y := Int32.ofInt 23) rfl ?_
            refine sp_goto rfl ?_
            exact st_iret rfl rfl (Nat.le_refl _) (Nat.le_refl _) k
        · have k := k.1 q_
          refine sp_bipush 53 rfl rfl ?_
          refine sp_I (y := Int32.ofInt 29) rfl ?_
          refine sp_goto rfl ?_
          exact st_iret rfl rfl (Nat.le_refl _) (Nat.le_refl _) k
      · have k := k.1 q_
        refine sp_bipush 39 rfl rfl ?_
        refine sp_I (y := Int32.ofInt 28) rfl ?_
        refine sp_goto rfl ?_
        exact st_iret rfl rfl (Nat.le_refl _) (Nat.le_refl _) k
    · have k := k.1 q_
      refine sp_bipush 25 rfl rfl ?_
      refine sp_I (y := Int32.ofInt 27) rfl ?_
      refine sp_goto rfl ?_
      exact st_iret rfl rfl (Nat.le_refl _) (Nat.le_refl _) k
  · have k := k.1 q_
    refine sp_bipush 11 rfl rfl ?_
    refine sp_I (y := Int32.ofInt 26) rfl ?_
    refine sp_goto rfl ?_
    exact st_iret rfl rfl (Nat.le_refl _) (Nat.le_refl _) k
theorem cy_X11_signOf {SL : Nat} {xs : Nat → Int32} {d : Nat} {p s q : Nat} {Q : Option Value → mm_H → Prop}  {I : Nat → Nat → Int32} {J : Nat → Nat → Int64}  (k : Q (some (.int (sy_X11_signOf  I J))) (hp p s q I J)) : mm_s SL xs (d + 2) 188 [.ref 65] (hp p s q I J) Q := by
  unfold sy_X11_signOf at k
  refine sg_X11_signOf  ?_
  refine ⟨fun q => ?_, fun q => ?_⟩
  · rw [if_pos q] at k
    exact k
  · rw [if_neg q] at k
    refine ⟨fun q => ?_, fun q => ?_⟩
    · rw [if_pos q] at k
      exact k
    · rw [if_neg q] at k
      refine ⟨fun q => ?_, fun q => ?_⟩
      · rw [if_pos q] at k
        exact k
      · rw [if_neg q] at k
        refine ⟨fun q => ?_, fun q => ?_⟩
        · rw [if_pos q] at k
          exact k
        · rw [if_neg q] at k
          refine ⟨fun q => ?_, fun q => ?_⟩
          · rw [if_pos q] at k
            exact k
          · rw [if_neg q] at k
            refine ⟨fun q => ?_, fun q => ?_⟩
            · rw [if_pos q] at k
              exact k
            · rw [if_neg q] at k
              refine ⟨fun q => ?_, fun q => ?_⟩
              · rw [if_pos q] at k
                exact k
              · rw [if_neg q] at k
                refine ⟨fun q => ?_, fun q => ?_⟩
                · rw [if_pos q] at k
                  refine ⟨fun q => ?_, fun q => ?_⟩
                  · rw [if_pos q] at k
                    exact k
                  · rw [if_neg q] at k
                    exact k
                · rw [if_neg q] at k
                  exact k
